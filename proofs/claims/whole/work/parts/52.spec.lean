/-! THE METHODS' MEANING: bounds -/
/-- what always holds of a view -/
def WV (V : Vw) : Prop := (∃ a b c, V.1.1 = N a ∧ V.1.2.1 = N b ∧ V.1.2.2 = N c ∧ a ≤ b ∧ b ≤ c ∧ c ≤ 200) ∧ vn V ≤ 7 ∧ (∀ k, k < vn V → (∃ x, x < 100 ∧ vf V k 1 = N x) ∧ (∃ y, y < 100 ∧ vf V k 2 = N y) ∧ ∃ c, c < 8 ∧ vf V k 3 = N c) ∧
  (∀ a b, a < vn V → b < vn V → (∃ q, q ≤ 2 ∧ vc V a b = N q) ∧ vc V a b = vc V b a) ∧ ∀ a b, a < vn V → b < vn V → vf V a 0 = vf V b 0 → a = b
theorem ab_N : ∀ a, a < 8 → ∀ b, b < 8 → ab (N a - N b) = N (if a < b then b - a else a - b) := by decide +kernel
theorem sub_N8 : ∀ a, a < 8 → ∀ b, b < 6 → (N a - N b < 0) = (N a < N b) := by
  have h : ∀ a, a < 8 → ∀ b, b < 6 → decide (N a - N b < 0) = decide (N a < N b) := by decide +kernel
  intro a ha b hb
  have h1 := h a ha b hb
  exact propext ⟨fun q => of_decide_eq_true (h1 ▸ decide_eq_true q), fun q => of_decide_eq_true (h1.symm ▸ decide_eq_true q)⟩
theorem bse_N (n m f q : Int32) : ∃ w, w ≤ 3 ∧ bse n m f q = N w := by
  unfold bse
  split
  · exact ⟨3, by decide, rfl⟩
  · split
    · exact ⟨2, by decide, rfl⟩
    · split
      · exact ⟨1, by decide, rfl⟩
      · exact ⟨0, by decide, rfl⟩
section WVL
variable {V : Vw}
theorem WV.ch (h : WV V) {k : Nat} (hk : k < vn V) : ∃ c, c < 8 ∧ vf V k 3 = N c := (h.2.2.1 k hk).2.2
theorem WV.abx (h : WV V) {a b : Nat} (ha : a < vn V) (hb : b < vn V) : ∃ u, u < 8 ∧ ab (vf V a 3 - vf V b 3) = N u := by
  obtain ⟨p, hp, e1⟩ := h.ch ha
  obtain ⟨q, hq, e2⟩ := h.ch hb
  refine ⟨_, ?_, by rw [e1, e2]; exact ab_N p hp q hq⟩
  split <;> omega
theorem WV.sp (h : WV V) {a b : Nat} (ha : a < vn V) (hb : b < vn V) : ∃ w, w < 6 ∧ spv V a b = N w := by
  obtain ⟨w, hw, e1⟩ := bse_N V.1.1 V.1.2.1 V.1.2.2 (sqv V a (vf V b 1) (vf V b 2))
  obtain ⟨⟨q, hq, e2⟩, -⟩ := h.2.2.2.1 a b ha hb
  refine ⟨w + q, by omega, ?_⟩
  unfold spv bs2 bsv
  rw [e1, e2, N_add]
/-- do two stations conflict? -/
def cfv (V : Vw) (a b : Nat) : Bool := decide (ab (vf V a 3 - vf V b 3) < spv V a b)
theorem mgv_neg (h : WV V) {a b : Nat} (ha : a < vn V) (hb : b < vn V) : (mgv V a b < 0) = (cfv V a b = true) := by
  obtain ⟨u, hu, e1⟩ := h.abx ha hb
  obtain ⟨w, hw, e2⟩ := h.sp ha hb
  unfold mgv cfv
  rw [decide_eq_true_eq, e1, e2]
  exact sub_N8 u hu w hw
theorem spv_c (h : WV V) {a b : Nat} (ha : a < vn V) (hb : b < vn V) : spv V a b = spv V b a := by
  unfold spv
  rw [bs2_c a b, (h.2.2.2.1 a b ha hb).2]
theorem spm_v {a b : Nat} : spm V a b = spv V a b := by
  unfold spm spv
  rw [bs2_c b a]
theorem ab_c (x y : Int32) : ∀ {p q : Nat}, x = N p → y = N q → p < 8 → q < 8 → ab (x - y) = ab (y - x) := by
  rintro p q rfl rfl hp hq
  rw [ab_N p hp q hq, ab_N q hq p hp]
  congr 1
  split <;> split <;> omega
theorem cfv_c (h : WV V) {a b : Nat} (ha : a < vn V) (hb : b < vn V) : cfv V a b = cfv V b a := by
  obtain ⟨p, hp, e1⟩ := h.ch ha
  obtain ⟨q, hq, e2⟩ := h.ch hb
  unfold cfv
  rw [spv_c h ha hb, ab_c _ _ e1 e2 hp hq]
/-- a sum of small numbers -/
theorem sm_N {g : Nat → Int32} {m : Nat} : ∀ {n : Nat}, (∀ k, k < n → ∃ w, w ≤ m ∧ g k = N w) → ∃ w, w ≤ n * m ∧ sm g n = N w
  | 0, _ => ⟨0, by omega, rfl⟩
  | n + 1, h => by
    obtain ⟨w, hw, e⟩ := sm_N (n := n) (fun k hk => h k (by omega))
    obtain ⟨v, hv, e2⟩ := h n (by omega)
    refine ⟨w + v, ?_, by rw [sm_s, e, e2, N_add]⟩
    rw [Nat.add_mul]
    omega
theorem dsb_N : ∀ a, a < 8 → ∀ b, b < 8 → ∃ w, w ≤ 4 ∧ dsb (N a) (N b) = N w := by decide +kernel
theorem dst_N (h : WV V) {x y w : Int32} {c : Nat} (hc : c < 8) : ∃ s, s ≤ 28 ∧ dst V x y (N c) w = N s := by
  have h7 := h.2.1
  obtain ⟨s, hs, e⟩ := sm_N (g := dst1 V x y (N c) w) (m := 4) (n := vn V) (fun k hk => by
    unfold dst1
    split
    · exact ⟨0, by decide, rfl⟩
    · split
      · split
        · obtain ⟨p, hp, e1⟩ := h.ch hk
          rw [e1]
          exact dsb_N p hp c hc
        · exact ⟨0, by decide, rfl⟩
      · exact ⟨0, by decide, rfl⟩)
  exact ⟨s, by omega, e⟩
theorem sdv_N (h : WV V) : ∃ s, s ≤ 196 ∧ sdv V = N s := by
  have h7 := h.2.1
  obtain ⟨s, hs, e⟩ := sm_N (g := fun k => if vl V k = true then dst V (vf V k 1) (vf V k 2) (vf V k 3) (N k) else 0) (m := 28) (n := vn V) (fun k hk => by
    show ∃ w, w ≤ 28 ∧ (if vl V k = true then _ else _) = N w
    split
    · obtain ⟨p, hp, e1⟩ := h.ch hk
      rw [e1]
      exact dst_N h hp
    · exact ⟨0, by decide, rfl⟩)
  exact ⟨s, by omega, e⟩
theorem lic_N {n : Nat} : ∃ s, s ≤ n ∧ sm (licv V) n = N s := by
  obtain ⟨s, hs, e⟩ := sm_N (g := licv V) (m := 1) (n := n) (fun k _ => by
    unfold licv
    split
    · exact ⟨1, by decide, rfl⟩
    · exact ⟨0, by decide, rfl⟩)
  exact ⟨s, by omega, e⟩
end WVL
set_option maxRecDepth 100000 in
theorem mean_ok : ∀ s, s < 197 → ∀ l, l < 7 → FP.fdiv (FP.i2f (N s)) (FP.i2f (N (l + 1))) &&& 0x7fffffff ≤ 0x7f800000 := by decide +kernel
set_option maxRecDepth 100000 in
theorem mean_d : ∀ s, s < 197 → ∀ l, l < 7 → FP.f2d (FP.fdiv (FP.i2f (N s)) (FP.i2f (N (l + 1)))) &&& 0x7fffffffffffffff ≤ 0x7ff0000000000000 := by decide +kernel
