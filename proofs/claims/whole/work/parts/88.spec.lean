/-! THE METHODS' MEANING: spans, their mathematics -/
def dsn (a b : Nat) : Nat := if a < b then b - a else a - b
theorem dsn_c (a b : Nat) : dsn a b = dsn b a := by
  unfold dsn
  split <;> split <;> omega
/-- can the positions from e on be given channels below m? -/
def EX (lic : Nat → Prop) (s : Nat → Nat → Nat) (m n e : Nat) (g : Nat → Nat) : Prop := ∃ c : Nat → Nat, (∀ d, d < e → c d = g d) ∧ ∀ b, e ≤ b → b < n → lic b → c b < m ∧ ∀ a, a < b → lic a → s a b ≤ dsn (c a) (c b)
def upn (g : Nat → Nat) (e x : Nat) : Nat → Nat := fun d => if d = e then x else g d
theorem upn_e {g : Nat → Nat} {e x : Nat} : upn g e x e = x := if_pos rfl
theorem upn_o {g : Nat → Nat} {e x d : Nat} (h : d ≠ e) : upn g e x d = g d := if_neg h
theorem EX_n {lic : Nat → Prop} {s : Nat → Nat → Nat} {m n : Nat} {g : Nat → Nat} : EX lic s m n n g := ⟨g, fun _ _ => rfl, fun b h1 h2 => by omega⟩
theorem EX_skip {lic : Nat → Prop} {s : Nat → Nat → Nat} {m n e : Nat} {g : Nat → Nat} (h : ¬ lic e) : EX lic s m n e g ↔ EX lic s m n (e + 1) g := by
  refine ⟨fun hx => ?_, fun hx => ?_⟩
  · obtain ⟨c, h1, h2⟩ := hx
    refine ⟨upn c e (g e), fun d hd => ?_, fun b hb hbn hlb => ?_⟩
    · by_cases hde : d = e
      · rw [hde, upn_e]
      · rw [upn_o hde]; exact h1 d (by omega)
    · obtain ⟨q1, q2⟩ := h2 b (by omega) hbn hlb
      rw [upn_o (by omega)]
      refine ⟨q1, fun a ha hla => ?_⟩
      rw [upn_o (show a ≠ e from by intro q; rw [q] at hla; exact h hla)]
      exact q2 a ha hla
  · obtain ⟨c, h1, h2⟩ := hx
    refine ⟨c, fun d hd => h1 d (by omega), fun b hb hbn hlb => ?_⟩
    by_cases hbe : b = e
    · exact absurd (hbe ▸ hlb) h
    · exact h2 b (by omega) hbn hlb
theorem EX_step {lic : Nat → Prop} {s : Nat → Nat → Nat} {m n e : Nat} {g : Nat → Nat} (hl : lic e) (he : e < n) : EX lic s m n e g ↔ ∃ x, x < m ∧ (∀ a, a < e → lic a → s a e ≤ dsn (g a) x) ∧ EX lic s m n (e + 1) (upn g e x) := by
  refine ⟨fun hx => ?_, fun hx => ?_⟩
  · obtain ⟨c, h1, h2⟩ := hx
    obtain ⟨q1, q2⟩ := h2 e (Nat.le_refl _) he hl
    refine ⟨c e, q1, fun a ha hla => by rw [← h1 a ha]; exact q2 a ha hla, c, fun d hd => ?_, fun b hb hbn hlb => h2 b (by omega) hbn hlb⟩
    by_cases hde : d = e
    · rw [hde, upn_e]
    · rw [upn_o hde]; exact h1 d (by omega)
  · obtain ⟨x, hx1, hx2, c, h1, h2⟩ := hx
    have hce : c e = x := by rw [h1 e (by omega), upn_e]
    have hcd : ∀ d, d < e → c d = g d := fun d hd => by rw [h1 d (by omega), upn_o (by omega)]
    refine ⟨c, hcd, fun b hb hbn hlb => ?_⟩
    by_cases hbe : b = e
    · subst hbe
      rw [hce]
      exact ⟨hx1, fun a ha hla => by rw [hcd a ha]; exact hx2 a ha hla⟩
    · exact h2 b (by omega) hbn hlb
theorem pig : ∀ (n e : Nat) (f : Nat → Nat), (∀ i, i < e → f i < n) → (∀ i j, i < e → j < e → f i = f j → i = j) → e ≤ n
  | 0, e, f, h, _ => by
    rcases Nat.eq_zero_or_pos e with q | q
    · omega
    · have := h 0 q
      omega
  | n + 1, e, f, h, hi => by
    by_cases hx : ∃ i, i < e ∧ f i = n
    · obtain ⟨i, hie, hin⟩ := hx
      have := pig n (e - 1) (fun d => f (if d < i then d else d + 1)) (fun d hd => by
        have hlt := h (if d < i then d else d + 1) (by split <;> omega)
        have hne : f (if d < i then d else d + 1) ≠ n := fun q => by
          have := hi _ i (by split <;> omega) hie (q.trans hin.symm)
          split at this <;> omega
        show f (if d < i then d else d + 1) < n
        omega) (fun a b ha hb q => by
        have := hi _ _ (by split <;> omega) (by split <;> omega) q
        split at this <;> split at this <;> omega)
      omega
    · have := pig n e f (fun d hd => by
        have := h d hd
        have hne : f d ≠ n := fun q => hx ⟨d, hd, q⟩
        omega) hi
      omega
/-- where j stands among the first n -/
def pos (p : Nat → Nat) (n j : Nat) : Nat := fs (fun d => decide (p d = j)) n
theorem pos_ok {p : Nat → Nat} {n d : Nat} (hi : ∀ i j, i < n → j < n → p i = p j → i = j) (hd : d < n) : pos p n (p d) = d := by
  refine fs_eq hd (by simp) (fun i h => decide_eq_false (fun q => ?_))
  have := hi i d (by omega) hd q
  omega
theorem sur {p : Nat → Nat} {n j : Nat} (hp : ∀ i, i < n → p i < n) (hi : ∀ i j, i < n → j < n → p i = p j → i = j) (hj : j < n) : ∃ d, d < n ∧ p d = j := by
  rcases Classical.em (∃ d, d < n ∧ p d = j) with h | h
  · exact h
  · have := pig n (n + 1) (fun i => if i = n then j else p i) (fun i hi' => by
      show (if i = n then j else p i) < n
      split
      · exact hj
      · exact hp i (by omega)) (fun a b ha hb q => by
      have q' : (if a = n then j else p a) = (if b = n then j else p b) := q
      by_cases ea : a = n
      · by_cases eb : b = n
        · omega
        · rw [if_pos ea, if_neg eb] at q'
          exact absurd ⟨b, by omega, q'.symm⟩ h
      · by_cases eb : b = n
        · rw [if_neg ea, if_pos eb] at q'
          exact absurd ⟨a, by omega, q'⟩ h
        · rw [if_neg ea, if_neg eb] at q'
          exact hi a b (by omega) (by omega) q')
    omega
/-- all n can be given channels below m -/
def FE (sp : Nat → Nat → Nat) (m n : Nat) : Prop := ∃ c : Nat → Nat, (∀ i, i < n → c i < m) ∧ ∀ i j, i < n → j < n → i ≠ j → sp i j ≤ dsn (c i) (c j)
theorem FE_EX {sp : Nat → Nat → Nat} {m n : Nat} {p g : Nat → Nat} (hs : ∀ i j, i < n → j < n → sp i j = sp j i) (hp : ∀ i, i < n → p i < n) (hi : ∀ i j, i < n → j < n → p i = p j → i = j) : EX (fun _ => True) (fun a b => sp (p a) (p b)) m n 0 g ↔ FE sp m n := by
  refine ⟨fun h => ?_, fun h => ?_⟩
  · obtain ⟨c, -, h2⟩ := h
    refine ⟨fun j => c (pos p n j), fun j hj => ?_, fun i j hin hjn hij => ?_⟩
    · obtain ⟨d, hd, e⟩ := sur hp hi hj
      rw [← e]
      show c (pos p n (p d)) < m
      rw [pos_ok hi hd]
      exact (h2 d (Nat.zero_le _) hd trivial).1
    · obtain ⟨a, ha, ea⟩ := sur hp hi hin
      obtain ⟨b, hb, eb⟩ := sur hp hi hjn
      rw [← ea, ← eb]
      show sp (p a) (p b) ≤ dsn (c (pos p n (p a))) (c (pos p n (p b)))
      rw [pos_ok hi ha, pos_ok hi hb]
      rcases Nat.lt_trichotomy a b with q | q | q
      · exact (h2 b (Nat.zero_le _) hb trivial).2 a q trivial
      · exact absurd (by rw [← ea, ← eb, q]) hij
      · rw [hs _ _ (hp a ha) (hp b hb), dsn_c]
        exact (h2 a (Nat.zero_le _) ha trivial).2 b q trivial
  · obtain ⟨c, h1, h2⟩ := h
    refine ⟨fun d => c (p d), fun d hd => by omega, fun b _ hb _ => ⟨h1 _ (hp b hb), fun a ha _ => h2 _ _ (hp a (by omega)) (hp b hb) (fun q => ?_)⟩⟩
    have := hi a b (by omega) hb q
    omega
/-- the lowest that is open -/
def lop (m : Nat) : Nat → Nat := fun n => fs (fun c => !m.testBit c) n
theorem low_bits {m t : Nat} (h1 : ∀ i, i < t → m.testBit i = true) (h2 : m.testBit t = false) : ∃ h, m = 2 ^ (t + 1) * h + (2 ^ t - 1) := by
  refine ⟨m / 2 ^ (t + 1), ?_⟩
  have e : m % 2 ^ (t + 1) = 2 ^ t - 1 := by
    apply Nat.eq_of_testBit_eq
    intro i
    rw [Nat.testBit_mod_two_pow, Nat.testBit_two_pow_sub_one]
    rcases Nat.lt_trichotomy i t with q | q | q
    · rw [h1 i q, decide_eq_true (show i < t + 1 by omega), decide_eq_true q]
      rfl
    · subst q
      rw [h2, Bool.and_false, decide_eq_false (Nat.lt_irrefl i)]
    · rw [decide_eq_false (show ¬ i < t + 1 by omega), decide_eq_false (show ¬ i < t by omega)]
      rfl
  have := Nat.div_add_mod m (2 ^ (t + 1))
  rw [e] at this
  exact this.symm
theorem low_open {m t : Nat} (ht : t < 62) (h1 : ∀ i, i < t → m.testBit i = true) (h2 : m.testBit t = false) : (Lg m ^^^ (-1)) &&& (Lg m + 1) = Lg (2 ^ t) := by
  obtain ⟨h, e⟩ := low_bits h1 h2
  have hp : 2 ^ t > 0 := Nat.two_pow_pos t
  have e1 : m + 1 = 2 ^ (t + 1) * h + 2 ^ t := by omega
  have hx : ∀ i, (m + 1).testBit i = if i < t + 1 then decide (i = t) else h.testBit (i - (t + 1)) := fun i => by
    rw [e1, Nat.testBit_two_pow_mul_add _ (by rw [Nat.pow_succ]; omega)]
    split
    · rw [Nat.testBit_two_pow]
      exact decide_eq_decide.mpr ⟨fun q => q.symm, fun q => q.symm⟩
    · rfl
  have hy : ∀ i, m.testBit i = if i < t + 1 then decide (i < t) else h.testBit (i - (t + 1)) := fun i => by
    rw [e, Nat.testBit_two_pow_mul_add _ (by rw [Nat.pow_succ]; omega)]
    split
    · rw [Nat.testBit_two_pow_sub_one]
    · rfl
  have es : Lg m + 1 = Lg (m + 1) := by
    show Int64.ofNat m + Int64.ofNat 1 = _
    exact (Int64.ofNat_add m 1).symm
  rw [es]
  apply Int64.toBitVec_inj.mp
  show ((BitVec.ofNat 64 m ^^^ (-1 : Int64).toBitVec) &&& BitVec.ofNat 64 (m + 1)) = BitVec.ofNat 64 (2 ^ t)
  apply BitVec.eq_of_getLsbD_eq
  intro i hi
  have hm1 : (-1 : Int64).toBitVec.getLsbD i = true := by
    have : ∀ i, i < 64 → (-1 : Int64).toBitVec.getLsbD i = true := by decide +kernel
    exact this i hi
  rw [BitVec.getLsbD_and, BitVec.getLsbD_xor, hm1, BitVec.getLsbD_ofNat, BitVec.getLsbD_ofNat, BitVec.getLsbD_ofNat, decide_eq_true hi, hx, hy, Nat.testBit_two_pow]
  simp only [Bool.true_and]
  by_cases hq : i < t + 1
  · rw [if_pos hq, if_pos hq]
    by_cases hit : i = t
    · subst hit
      simp
    · have : i < t := by omega
      have h3 : ¬ t = i := by omega
      simp [hit, this, h3]
  · rw [if_neg hq, if_neg hq]
    have h3 : ¬ t = i := by omega
    cases h.testBit (i - (t + 1)) <;> simp [h3]
