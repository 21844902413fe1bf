/-! THE METHODS' MEANING: numbers, loops, the references' places -/
abbrev N (k : Nat) : Int32 := Int32.ofNat k
theorem N_lt {a b : Nat} (ha : a < 2147483648) (hb : b < 2147483648) : (N a < N b) = (a < b) := propext (Int32.ofNat_lt_ofNat ha hb)
theorem N_le {a b : Nat} (ha : a < 2147483648) (hb : b < 2147483648) : (N a ≤ N b) = (a ≤ b) := propext (Int32.ofNat_le_ofNat ha hb)
theorem N_add (a b : Nat) : N a + N b = N (a + b) := (Int32.ofNat_add a b).symm
theorem N_1 (a : Nat) : N a + 1 = N (a + 1) := N_add a 1
theorem N_cl {a : Nat} (ha : a < 2147483648) : (N a).toNatClampNeg = a := Int32.toNatClampNeg_ofNat_of_lt ha
theorem N_inj {a b : Nat} (ha : a < 2147483648) (hb : b < 2147483648) : (N a = N b) = (a = b) := by
  refine propext ⟨fun h => ?_, fun h => by rw [h]⟩
  have := congrArg Int32.toNatClampNeg h
  rwa [N_cl ha, N_cl hb] at this
theorem N_0 : N 0 = 0 := rfl
theorem N_neg {a : Nat} (ha : a < 2147483648) : (N a < 0) = False := by
  rw [← N_0, N_lt ha (by decide)]
  simp
theorem inB_N {k n : Nat} (hk : k < n) (hn : n < 2147483648) : inB (N k) n = true := by
  have h1 := N_neg (a := k) (by omega)
  have h2 := N_cl (a := k) (by omega)
  simp [inB, h1, h2, hk]
theorem iter_to {α : Type} {f : Nat → α} {a n : Nat} (ha : a ≤ n) (h : ∀ k, a ≤ k → k < n → f k = f (k + 1)) : f a = f n := by
  induction n with
  | zero => rw [Nat.le_zero.mp ha]
  | succ n ih =>
    by_cases hn : a ≤ n
    · exact (ih hn (fun k h1 h2 => h k h1 (Nat.lt_succ_of_lt h2))).trans (h n hn (Nat.lt_succ_self n))
    · rw [show a = n + 1 by omega]
theorem iter {α : Type} {f : Nat → α} {n : Nat} (h : ∀ k, k < n → f k = f (k + 1)) : f 0 = f n := iter_to (Nat.zero_le n) (fun k _ hk => h k hk)
/-- the first k below n with p k; n if there is none -/
def fs (p : Nat → Bool) : Nat → Nat
  | 0 => 0
  | n + 1 => if fs p n < n then fs p n else if p n = true then n else n + 1
theorem fs_le (p : Nat → Bool) : ∀ n, fs p n ≤ n
  | 0 => Nat.le_refl 0
  | n + 1 => by
    unfold fs
    split
    · omega
    · split <;> omega
theorem fs_no {p : Nat → Bool} : ∀ {n k : Nat}, k < fs p n → p k = false
  | 0, k, h => absurd h (Nat.not_lt_zero k)
  | n + 1, k, h => by
    unfold fs at h
    have h9 := fs_le p n
    split at h
    · exact fs_no h
    · have e : fs p n = n := by omega
      split at h
      · exact fs_no (n := n) (by omega)
      · rename_i hp
        by_cases hk : k = n
        · rw [hk]
          exact Bool.eq_false_iff.mpr hp
        · exact fs_no (n := n) (by omega)
theorem fs_yes {p : Nat → Bool} : ∀ {n : Nat}, fs p n < n → p (fs p n) = true
  | 0, h => absurd h (Nat.not_lt_zero _)
  | n + 1, h => by
    unfold fs at h ⊢
    split
    · rename_i hl
      exact fs_yes hl
    · rename_i hl
      rw [if_neg hl] at h
      split
      · assumption
      · rename_i hp
        rw [if_neg hp] at h
        omega
theorem fs_eq {p : Nat → Bool} {n k : Nat} (hk : k < n) (hp : p k = true) (hn : ∀ i, i < k → p i = false) : fs p n = k := by
  have h1 := fs_le p n
  rcases Nat.lt_trichotomy (fs p n) k with h | h | h
  · have h2 := fs_yes (p := p) (n := n) (by omega)
    rw [hn _ h] at h2
    cases h2
  · exact h
  · rw [fs_no h] at hp
    cases hp
theorem fs_all {p : Nat → Bool} {n : Nat} (h : ∀ i, i < n → p i = false) : fs p n = n := by
  have h1 := fs_le p n
  by_cases hl : fs p n < n
  · have h2 := fs_yes hl
    rw [h _ hl] at h2
    cases h2
  · omega
theorem fs_congr {p q : Nat → Bool} : ∀ {n : Nat}, (∀ i, i < n → p i = q i) → fs p n = fs q n
  | 0, _ => rfl
  | n + 1, h => by
    unfold fs
    rw [fs_congr (n := n) (fun i hi => h i (by omega)), h n (by omega)]
theorem iter_fs {α : Type} {f r : Nat → α} {p : Nat → Bool} {n : Nat} (h : ∀ k, k < n → f k = if p k = true then r k else f (k + 1)) : f 0 = if fs p n < n then r (fs p n) else f n := by
  have h1 := fs_le p n
  have h2 : f 0 = f (fs p n) := iter (fun k hk => by rw [h k (by omega), fs_no hk]; rfl)
  rw [h2]
  split
  · rename_i hl
    rw [h _ hl, fs_yes hl]
    rfl
  · rw [show fs p n = n by omega]
/-- a sum -/
def sm (g : Nat → Int32) : Nat → Int32
  | 0 => 0
  | n + 1 => sm g n + g n
theorem sm_s (g : Nat → Int32) (n : Nat) : sm g (n + 1) = sm g n + g n := rfl
theorem sm_congr {g g' : Nat → Int32} : ∀ {n : Nat}, (∀ k, k < n → g k = g' k) → sm g n = sm g' n
  | 0, _ => rfl
  | n + 1, h => by rw [sm_s, sm_s, sm_congr (n := n) (fun k hk => h k (by omega)), h n (by omega)]
/-- where the references point: they are laid once -/
def RF (R : OId → Nat → AV) : Prop :=
  (R (11, 0, 0) 0 = aR (4, 0, 0) ∧ R (11, 0, 0) 1 = aR (5, 0, 0) ∧ R (11, 0, 0) 2 = aR (4, 7, 0) ∧ R (11, 0, 0) 4 = aR (8, 0, 0) ∧ R (11, 0, 0) 5 = aR (9, 0, 0) ∧ R (11, 0, 0) 6 = aR (1, 0, 0)) ∧
  (∀ j, j < 8 → R (4, j, 0) 8 = aR (20, j, 0) ∧ R (4, j, 0) 9 = aR (10, j, 7) ∧ R (4, j, 0) 10 = aR (21, j, 0) ∧ R (4, j, 0) 11 = aR (7, j, 0) ∧ ∀ k, k < 7 → R (20, j, 0) k = aR (10, j, k)) ∧
  (∀ j, j < 9 → R (7, j, 0) 2 = aR (22, j, 0) ∧ R (7, j, 0) 3 = aR (23, j, 0) ∧ R (7, j, 0) 4 = aR (24, j, 0)) ∧
  (R (5, 0, 0) 0 = aR (25, 0, 0) ∧ ∀ i, i < 6 → R (25, 0, 0) i = aR (4, i + 1, 0)) ∧
  (R (6, 0, 0) 1 = aR (26, 0, 0) ∧ R (6, 0, 0) 2 = aR (27, 0, 0) ∧ R (6, 0, 0) 3 = aR (28, 0, 0) ∧ R (6, 0, 0) 4 = aR (29, 0, 0)) ∧
  (R (8, 0, 0) 0 = aR (6, 0, 0) ∧ R (8, 0, 0) 1 = aR (7, 8, 0) ∧ R (8, 0, 0) 2 = aR (30, 0, 0) ∧ R (8, 0, 0) 3 = aR (31, 0, 0) ∧ R (8, 0, 0) 4 = aR (32, 0, 0)) ∧
  (R (9, 0, 0) 0 = aR (6, 0, 0) ∧ R (9, 0, 0) 1 = aR (33, 0, 0) ∧ R (9, 0, 0) 2 = aR (34, 0, 0)) ∧
  (R (12, 0, 0) 0 = aR (35, 0, 0) ∧ R (12, 0, 0) 1 = aR (36, 0, 0) ∧ R (12, 0, 0) 2 = aR (37, 0, 0) ∧ R (12, 0, 0) 3 = aR (38, 0, 0) ∧ R (12, 0, 0) 4 = aR (39, 0, 0) ∧ R (12, 0, 0) 5 = aR (40, 0, 0) ∧ R (12, 0, 0) 6 = aR (41, 0, 0))
