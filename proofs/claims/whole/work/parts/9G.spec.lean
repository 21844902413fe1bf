/-! THE METHODS' MEANING: the order by expiry -/
def cn (p : Nat → Bool) : Nat → Nat
  | 0 => 0
  | n + 1 => cn p n + (if p n = true then 1 else 0)
theorem cn_sm {p : Nat → Bool} : ∀ n, sm (fun k => if p k = true then 1 else 0) n = N (cn p n)
  | 0 => rfl
  | n + 1 => by
    rw [sm_s, cn_sm n]
    show _ = N (cn p n + (if p n = true then 1 else 0))
    by_cases h : p n = true
    · rw [if_pos h, if_pos h, N_1]
    · rw [if_neg h, if_neg h]
      exact N_add (cn p n) 0
theorem cn_mono {p q : Nat → Bool} : ∀ n, (∀ i, i < n → p i = true → q i = true) → cn p n ≤ cn q n
  | 0, _ => Nat.le_refl _
  | n + 1, h => by
    have h1 := cn_mono n (fun i hi => h i (by omega))
    have h2 := h n (by omega)
    show cn p n + (if p n = true then 1 else 0) ≤ cn q n + (if q n = true then 1 else 0)
    by_cases hp : p n = true
    · rw [if_pos hp, if_pos (h2 hp)]
      omega
    · rw [if_neg hp]
      omega
theorem cn_lt {p q : Nat → Bool} {i : Nat} : ∀ n, (∀ i, i < n → p i = true → q i = true) → i < n → q i = true → p i = false → cn p n < cn q n
  | 0, _, hi, _, _ => absurd hi (Nat.not_lt_zero _)
  | n + 1, h, hi, hq, hp => by
    have h1 := cn_mono n (fun i hi => h i (by omega))
    have h2 := h n (by omega)
    show cn p n + (if p n = true then 1 else 0) < cn q n + (if q n = true then 1 else 0)
    by_cases hin : i = n
    · subst hin
      rw [if_pos hq, if_neg (by rw [hp]; exact Bool.false_ne_true)]
      omega
    · have h3 := cn_lt n (fun i hi => h i (by omega)) (by omega) hq hp
      by_cases hp' : p n = true
      · rw [if_pos hp', if_pos (h2 hp')]
        omega
      · rw [if_neg hp']
        omega
theorem cn_all : ∀ n, cn (fun _ => true) n = n
  | 0 => rfl
  | n + 1 => by
    show cn (fun _ => true) n + 1 = n + 1
    rw [cn_all n]
def bfr (V : Vw) (j k : Nat) : Bool := decide ((vf V j 4).toInt < (vf V k 4).toInt ∨ (vf V j 4).toInt = (vf V k 4).toInt ∧ j < k)
theorem erl1_b (V : Vw) (k j : Nat) : erl1 V k j = if bfr V j k = true then 1 else 0 := by
  unfold erl1 bfr
  by_cases h1 : vf V j 4 < vf V k 4
  · have h1' : (vf V j 4).toInt < (vf V k 4).toInt := Int32.lt_iff_toInt_lt.mp h1
    rw [if_pos h1, if_pos (decide_eq_true (Or.inl h1'))]
  · have h1' : ¬ (vf V j 4).toInt < (vf V k 4).toInt := fun q => h1 (Int32.lt_iff_toInt_lt.mpr q)
    rw [if_neg h1]
    by_cases h2 : vf V j 4 = vf V k 4
    · rw [if_pos h2]
      by_cases h3 : j < k
      · rw [if_pos h3, if_pos (decide_eq_true (Or.inr ⟨by rw [h2], h3⟩))]
      · rw [if_neg h3, if_neg]
        intro q
        rcases of_decide_eq_true q with q | q
        · exact h1' q
        · exact h3 q.2
    · rw [if_neg h2, if_neg]
      intro q
      rcases of_decide_eq_true q with q | q
      · exact h1' q
      · exact h2 (Int32.toInt_inj.mp q.1)
theorem erl_N (V : Vw) (k : Nat) : erl V k = N (cn (fun j => bfr V j k) (vn V)) := by
  unfold erl
  rw [sm_congr (g' := fun j => if bfr V j k = true then 1 else 0) (fun j _ => erl1_b V k j)]
  exact cn_sm _
theorem bfr_lt {V : Vw} {k k' : Nat} (hk : k < vn V) (h : bfr V k k' = true) : cn (fun j => bfr V j k) (vn V) < cn (fun j => bfr V j k') (vn V) := by
  refine cn_lt (i := k) (vn V) (fun j _ hj => ?_) hk h ?_
  · have h1 := of_decide_eq_true h
    have h2 := of_decide_eq_true hj
    exact decide_eq_true (by omega)
  · exact decide_eq_false (by omega)
theorem erl_ex {V : Vw} {p : Nat} (hp : p < vn V) : ∃ k, k < vn V ∧ cn (fun j => bfr V j k) (vn V) = p := by
  refine sur (n := vn V) (p := fun k => cn (fun j => bfr V j k) (vn V)) (fun i hi => ?_) (fun a b ha hb hab => ?_) hp
  · have h1 := cn_lt (p := fun j => bfr V j i) (q := fun _ => true) (i := i) (vn V) (fun _ _ _ => rfl) hi rfl (decide_eq_false (by omega))
    rw [cn_all] at h1
    exact h1
  · by_cases h : a = b
    · exact h
    · exfalso
      by_cases h1 : bfr V a b = true
      · have := bfr_lt ha h1
        have h9 : cn (fun j => bfr V j a) (vn V) = cn (fun j => bfr V j b) (vn V) := hab
        omega
      · have h2 : bfr V b a = true := by
          have h3 : ¬ ((vf V a 4).toInt < (vf V b 4).toInt ∨ (vf V a 4).toInt = (vf V b 4).toInt ∧ a < b) := fun q => h1 (decide_eq_true q)
          exact decide_eq_true (by omega)
        have := bfr_lt hb h2
        have h9 : cn (fun j => bfr V j a) (vn V) = cn (fun j => bfr V j b) (vn V) := hab
        omega
theorem erl_fs {V : Vw} (h7 : vn V ≤ 7) {p : Int32} (hp : ¬ p < 0 ∧ p < N (vn V)) : ∃ k, fs (fun k => decide (erl V k = p)) (vn V) = k ∧ k < vn V := by
  obtain ⟨a, a1, rfl⟩ := nn_N hp.1
  have h2 := hp.2
  rw [N_lt a1 (by omega)] at h2
  obtain ⟨k, k1, k2⟩ := erl_ex h2
  refine ⟨_, rfl, fs_ex.mpr ⟨k, k1, ?_⟩⟩
  rw [erl_N, k2]
  exact decide_eq_true rfl
