/-! THE METHODS' MEANING: the class's rows, its books -/
abbrev Ex (e : Nat) (S : SS) : Option Out := some (.inr (exN e), bump S 1 6)
theorem exN_0 : exN 0 = "java/lang/IllegalArgumentException" := rfl
theorem exN_1 : exN 1 = "java/lang/IllegalStateException" := rfl
theorem exN_2 : exN 2 = "java/lang/UnsupportedOperationException" := rfl
theorem exN_3 : exN 3 = "java/util/NoSuchElementException" := rfl
theorem exN_4 : exN 4 = "java/lang/IndexOutOfBoundsException" := rfl
theorem exN_5 : exN 5 = "java/lang/ArithmeticException" := rfl
theorem o10 : ((1 : Int32) = 0) = False := by simp
theorem o00 : ((0 : Int32) = 0) = True := by simp
theorem N7 {i : Nat} (h : i < 7) : (7 ≤ N i) = False := by
  show (N 7 ≤ N i) = False
  rw [N_le (by omega) (by omega)]
  simp; omega
theorem N8 {i : Nat} (h : i < 8) : (8 ≤ N i) = False := by
  show (N 8 ≤ N i) = False
  rw [N_le (by omega) (by omega)]
  simp; omega
theorem N_ge {a b : Nat} (h : a < b) (hb : b < 2147483648) : (N b ≤ N a) = False := by
  rw [N_le hb (by omega)]
  simp; omega
theorem N_ge1 {a b : Nat} (h : b ≤ a) (ha : a < 2147483648) : (N b ≤ N a) = True := by
  rw [N_le (by omega) ha]
  simp; omega
theorem le_nl {a b : Int32} : (b ≤ a) = ¬ (a < b) := propext (Int32.not_lt).symm
theorem ite_le {α : Type} {a b : Int32} {x y : α} : (if b ≤ a then x else y) = if a < b then y else x := by
  by_cases h : a < b
  · rw [if_pos h, if_neg (by rw [le_nl]; exact fun q => q h)]
  · rw [if_neg h, if_pos (by rw [le_nl]; exact h)]
theorem N_lt1 {a b : Nat} (h : a < b) (hb : b < 2147483648) : (N a < N b) = True := by
  rw [N_lt (by omega) hb]
  simp; omega
theorem get_N {d k n : Nat} {o : OId} {S : SS} (hk : kOf o = .inr (.int, n)) (h44 : ∀ k, agI S o k = S.1 o k) (h : k < n) (hn : n < 2147483648) : evm (d + 1) 31 [aR o, aI (N k)] S = some (.inl (some (aI (S.1 o k))), S) := by
  simp only [m31, s31_0, s31_1, s31_4, s31_5, s31_6, s31_7, s31_10, s31_11, s31_12, s31_13, s31_16, s31_17, kN, kI, hk, N_neg (a := k) (by omega), N_ge h hn, if_false, inB_N h hn, if_true, N_cl (a := k) (by omega), h44]
theorem get_no {d : Nat} {o : OId} {i : Int32} {S : SS} (h : i < 0) : evm (d + 1) 31 [aR o, aI i] S = some (.inl (some (aI 0)), S) := by
  simp only [m31, s31_0, s31_1, s31_4, s31_5, s31_6, s31_7, s31_10, s31_11, s31_12, s31_13, s31_16, s31_17, h, if_true]
theorem put_N {d k n : Nat} {o : OId} {x : Int32} {S : SS} (hk : kOf o = .inr (.int, n)) (hro : isRo o = false) (h : k < n) (hn : n < 2147483648) : evm (d + 1) 35 [aR o, aI (N k), aI x] S = some (.inl none, (setI S.1 o k x, S.2)) := by
  simp only [m35, s35_0, s35_1, s35_4, s35_5, s35_6, s35_7, s35_10, s35_11, s35_12, s35_13, s35_14, kN, kIw, hk, hro, N_neg (a := k) (by omega), N_ge h hn, if_false, inB_N h hn, if_true, N_cl (a := k) (by omega), and_self]
theorem put_no {d : Nat} {o : OId} {i x : Int32} {S : SS} (h : i < 0) : evm (d + 1) 35 [aR o, aI i, aI x] S = some (.inl none, S) := by
  simp only [m35, s35_0, s35_1, s35_4, s35_5, s35_6, s35_7, s35_10, s35_11, s35_12, s35_13, s35_14, h, if_true]
theorem pair_N {d i j : Nat} {S : SS} (hi : i < 7) (hj : j < 7) : evm (d + 1) 30 [aI (N i), aI (N j)] S = some (.inl (some (aI (N (7 * i + j)))), S) := by
  have e : N i * 7 + N j = N (7 * i + j) := by
    show N i * N 7 + N j = _
    rw [← Int32.ofNat_mul, N_add, Nat.mul_comm]
  simp only [m30, s30_0, s30_1, s30_4, s30_5, s30_7, s30_10, s30_11, s30_14, s30_15, s30_17, s30_20, s30_21, s30_24, s30_25, s30_26, s30_27, s30_30, s30_31, s30_33, s30_34, s30_35, s30_36, s30_39, s30_40, N_neg (a := i) (by omega), N_neg (a := j) (by omega), N7 hi, N7 hj, if_false, o10, e]
theorem pair_hi {d i j : Nat} {S : SS} (h : (7 ≤ i ∨ 7 ≤ j) ∧ i < 100 ∧ j < 100) : evm (d + 1) 30 [aI (N i), aI (N j)] S = some (.inl (some (aI (-1))), S) := by
  by_cases hi : 7 ≤ i
  · have e : (7 ≤ N i) = True := N_ge1 (a := i) (b := 7) hi (by omega)
    simp only [m30, s30_0, s30_1, s30_4, s30_5, s30_7, s30_10, s30_11, s30_14, s30_15, s30_17, s30_20, s30_21, s30_24, s30_25, s30_26, s30_27, s30_30, s30_31, s30_33, s30_34, s30_35, s30_36, s30_39, s30_40, N_neg (a := i) (by omega), e, if_false, if_true, o00]
  · have e : (7 ≤ N j) = True := N_ge1 (a := j) (b := 7) (by omega) (by omega)
    simp only [m30, s30_0, s30_1, s30_4, s30_5, s30_7, s30_10, s30_11, s30_14, s30_15, s30_17, s30_20, s30_21, s30_24, s30_25, s30_26, s30_27, s30_30, s30_31, s30_33, s30_34, s30_35, s30_36, s30_39, s30_40, N_neg (a := i) (by omega), N_neg (a := j) (by omega), N7 (show i < 7 by omega), e, if_false, if_true, o00]
section BOOKS
variable {d j : Nat} {I : OId → Nat → Int32} {M R : OId → Nat → AV} {G : SG}
theorem RF.b (h : RF R) (hj : j < 8) : R (4, j, 0) 8 = aR (20, j, 0) ∧ R (4, j, 0) 9 = aR (10, j, 7) ∧ R (4, j, 0) 10 = aR (21, j, 0) ∧ R (4, j, 0) 11 = aR (7, j, 0) ∧ ∀ k, k < 7 → R (20, j, 0) k = aR (10, j, k) := h.2.1 j hj
theorem at_N {k : Nat} (hR : RF R) (hj : j < 8) (hk : k < 7) : evm (d + 1) 17 [aR (4, j, 0), aI (N k)] (I, M, R, G) = some (.inl (some (aR (10, j, k))), (I, M, R, G)) := by
  obtain ⟨h8, h9, -, -, h20⟩ := hR.b hj
  have e : (N k < 7) = True := N_lt1 (a := k) (b := 7) hk (by omega)
  have hh : kOf (20, j, 0) = .inr (kSt, 7) := rfl
  simp only [m17, s17_0, s17_1, s17_4, s17_5, s17_6, s17_9, s17_10, s17_13, s17_14, s17_17, s17_17N, s17_18, s17_19, s17_22, s17_23, s17_24, s17_25, s17_26, s17_26N, s17_29, s17_30, s17_33, s17_36, s17_37, s17_37N, N_neg (a := k) (by omega), if_false, h8, kN, hh, kQ, e, if_true, show Int32.ofNat 7 = 7 from rfl, inB_N hk (by omega), N_cl (a := k) (by omega), h20 k hk]
theorem at_no {i : Int32} (hR : RF R) (hj : j < 8) (hi : i < 0) : evm (d + 1) 17 [aR (4, j, 0), aI i] (I, M, R, G) = some (.inl (some (aR (10, j, 7))), (I, M, R, G)) := by
  obtain ⟨h8, h9, -, -, h20⟩ := hR.b hj
  simp only [m17, s17_0, s17_1, s17_4, s17_5, s17_6, s17_9, s17_10, s17_13, s17_14, s17_17, s17_17N, s17_18, s17_19, s17_22, s17_23, s17_24, s17_25, s17_26, s17_26N, s17_29, s17_30, s17_33, s17_36, s17_37, s17_37N, hi, if_true, h9]
def bse (n m f q : Int32) : Int32 := if q < n * n then 3 else if q < m * m then 2 else if q < f * f then 1 else 0
def sqP (I : OId → Nat → Int32) (j k : Nat) (x y : Int32) : Int32 := (I (10, j, k) 1 - x) * (I (10, j, k) 1 - x) + (I (10, j, k) 2 - y) * (I (10, j, k) 2 - y)
def bsP (I : OId → Nat → Int32) (j k : Nat) (x y : Int32) : Int32 := bse (I (4, j, 0) 0) (I (4, j, 0) 1) (I (4, j, 0) 2) (sqP I j k x y)
def bsB (I : OId → Nat → Int32) (j a b : Nat) : Int32 := bsP I j a (I (10, j, b) 1) (I (10, j, b) 2)
def cmB (I : OId → Nat → Int32) (j a b : Nat) : Int32 := I (21, j, 0) (7 * a + b)
def spB (I : OId → Nat → Int32) (j a b : Nat) : Int32 := bsB I j a b + cmB I j a b
def ab (x : Int32) : Int32 := if x < 0 then 0 - x else x
theorem ab_f (x : Int32) : (if x < 0 then 0 - x else x) = ab x := rfl
theorem ab_g (x : Int32) : (if 0 ≤ x then x else 0 - x) = ab x := ite_le
def mgB (I : OId → Nat → Int32) (j a b : Nat) : Int32 := ab (I (10, j, a) 3 - I (10, j, b) 3) - spB I j a b
theorem squaredTo_ok {k : Nat} {x y : Int32} : evm (d + 1) 27 [aR (10, j, k), aI x, aI y] (I, M, R, G) = some (.inl (some (aI (sqP I j k x y))), (I, M, R, G)) := by
  simp only [m27, s27_0, s27_1, s27_4, s27_5, s27_6, s27_7, s27_10, s27_11, s27_12, s27_13, s27_14, s27_17, s27_18, s27_19, s27_20, s27_23, s27_24, s27_25, s27_26, s27_27, sqP]
theorem baseAt_ok {q : Int32} : evm (d + 1) 28 [aR (4, j, 0), aI q] (I, M, R, G) = some (.inl (some (aI (bse (I (4, j, 0) 0) (I (4, j, 0) 1) (I (4, j, 0) 2) q))), (I, M, R, G)) := by
  simp only [m28, s28_0, s28_1, s28_2, s28_5, s28_6, s28_9, s28_10, s28_13, s28_14, s28_15, s28_16, s28_17, s28_20, s28_21, s28_24, s28_25, s28_28, s28_29, s28_30, s28_31, s28_32, s28_35, s28_36, s28_39, s28_40, s28_43, s28_44, s28_47, s28_48, bse, ite_le]
  split
  · rfl
  · split
    · rfl
    · split <;> rfl
theorem cmB_ok {a b : Nat} (hR : RF R) (hj : j < 8) (ha : a < 7) (hb : b < 7) : evm (d + 2) 29 [aR (4, j, 0), aI (N a), aI (N b)] (I, M, R, G) = some (.inl (some (aI (cmB I j a b))), (I, M, R, G)) := by
  obtain ⟨-, -, h10, -⟩ := hR.b hj
  have hk : kOf (21, j, 0) = .inr (.int, 49) := rfl
  simp only [m29, s29_0, s29_1, s29_4, s29_5, s29_6, s29_9, s29_12, h10, pair_N ha hb, ck_v, Option.toList, List.cons_append, List.nil_append, get_N (S := (I, M, R, G)) hk (fun _ => rfl) (show 7 * a + b < 49 by omega) (by omega), cmB]
theorem cmB_hi {a b : Nat} (hR : RF R) (hj : j < 8) (h : (7 ≤ a ∨ 7 ≤ b) ∧ a < 100 ∧ b < 100) : evm (d + 2) 29 [aR (4, j, 0), aI (N a), aI (N b)] (I, M, R, G) = some (.inl (some (aI 0)), (I, M, R, G)) := by
  obtain ⟨-, -, h10, -⟩ := hR.b hj
  simp only [m29, s29_0, s29_1, s29_4, s29_5, s29_6, s29_9, s29_12, h10, pair_hi h, ck_v, Option.toList, List.cons_append, List.nil_append, get_no (i := -1) (by decide)]
theorem bsB_ok {a b : Nat} (hR : RF R) (hj : j < 8) (ha : a < 7) (hb : b < 7) : evm (d + 2) 26 [aR (4, j, 0), aI (N a), aI (N b)] (I, M, R, G) = some (.inl (some (aI (bsB I j a b))), (I, M, R, G)) := by
  simp only [m26, s26_0, s26_1, s26_2, s26_3, s26_6, s26_7, s26_8, s26_11, s26_14, s26_15, s26_16, s26_19, s26_22, s26_25, s26_28, at_N hR hj ha, at_N hR hj hb, ck_v, Option.toList, List.cons_append, List.nil_append, squaredTo_ok, baseAt_ok, bsB, bsP]
theorem sqB_ok {a b : Nat} (hR : RF R) (hj : j < 8) (ha : a < 7) (hb : b < 7) : evm (d + 2) 119 [aR (4, j, 0), aI (N a), aI (N b)] (I, M, R, G) = some (.inl (some (aI (sqP I j a (I (10, j, b) 1) (I (10, j, b) 2)))), (I, M, R, G)) := by
  simp only [m119, s119_0, s119_1, s119_2, s119_5, s119_6, s119_7, s119_10, s119_13, s119_14, s119_15, s119_18, s119_21, s119_24, at_N hR hj ha, at_N hR hj hb, ck_v, Option.toList, List.cons_append, List.nil_append, squaredTo_ok]
theorem spB_ok {a b : Nat} (hR : RF R) (hj : j < 8) (ha : a < 7) (hb : b < 7) : evm (d + 3) 25 [aR (4, j, 0), aI (N a), aI (N b)] (I, M, R, G) = some (.inl (some (aI (spB I j a b))), (I, M, R, G)) := by
  simp only [m25, s25_0, s25_1, s25_2, s25_3, s25_6, s25_7, s25_8, s25_9, s25_12, s25_13, bsB_ok hR hj ha hb, cmB_ok hR hj ha hb, ck_v, Option.toList, List.cons_append, List.nil_append, spB]
theorem mgB_ok {a b : Nat} (hR : RF R) (hj : j < 8) (ha : a < 7) (hb : b < 7) : evm (d + 4) 24 [aR (4, j, 0), aI (N a), aI (N b)] (I, M, R, G) = some (.inl (some (aI (mgB I j a b))), (I, M, R, G)) := by
  simp only [m24, s24_0, s24_1, s24_2, s24_5, s24_8, s24_9, s24_10, s24_13, s24_16, s24_17, s24_20, s24_21, s24_22, s24_23, s24_26, s24_27, at_N hR hj ha, at_N hR hj hb, spB_ok hR hj ha hb, ck_v, Option.toList, List.cons_append, List.nil_append, mgB, ab_f, ab_g]
end BOOKS
