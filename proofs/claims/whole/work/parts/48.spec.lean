/-! THE METHODS' MEANING: the model's row -/
theorem N_mul (a b : Nat) : N a * N b = N (a * b) := (Int32.ofNat_mul a b).symm
theorem sq_c (x a : Int32) : (x - a) * (x - a) = (a - x) * (a - x) := by grind
theorem neg_0 (x : Int32) : -x = 0 - x := by grind
def MV (I : OId → Nat → Int32) (V : Vw) : Prop := (I (35, 0, 0) 0 = V.1.1 ∧ I (35, 0, 0) 1 = V.1.2.1 ∧ I (35, 0, 0) 2 = V.1.2.2) ∧ I (35, 0, 0) 7 = N (vn V) ∧ vn V ≤ 7 ∧ (∀ k, k < vn V → ∀ f, f < 5 → I (35, 0, 0) (15 + 6 * k + f) = vf V k f) ∧ (∀ k, k < vn V → I (35, 0, 0) (15 + 6 * k + 5) = if vl V k = true then 1 else 0) ∧ ∀ a b, a < vn V → b < vn V → I (35, 0, 0) (57 + 7 * a + b) = vc V a b
theorem kn {i : Nat} {r : Option Out} (h : i < 106) : kI (35, 0, 0) (N i) r = r := by
  have hk : kOf (35, 0, 0) = .inr (.int, 106) := rfl
  simp only [kI, hk, inB_N h (by decide), if_true]
theorem knw {i : Nat} {r : Option Out} (h : i < 106) : kIw (35, 0, 0) (N i) r = r := by
  have hk : kOf (35, 0, 0) = .inr (.int, 106) := rfl
  have hr : isRo (35, 0, 0) = false := rfl
  simp only [kIw, hk, inB_N h (by decide), hr, and_self, if_true]
theorem kn0 {r : Option Out} : kI (35, 0, 0) 0 r = r := kn (i := 0) (by decide)
theorem kn1 {r : Option Out} : kI (35, 0, 0) 1 r = r := kn (i := 1) (by decide)
theorem kn2 {r : Option Out} : kI (35, 0, 0) 2 r = r := kn (i := 2) (by decide)
theorem kn3 {r : Option Out} : kI (35, 0, 0) 3 r = r := kn (i := 3) (by decide)
theorem kn4 {r : Option Out} : kI (35, 0, 0) 4 r = r := kn (i := 4) (by decide)
theorem kn5 {r : Option Out} : kI (35, 0, 0) 5 r = r := kn (i := 5) (by decide)
theorem kn6 {r : Option Out} : kI (35, 0, 0) 6 r = r := kn (i := 6) (by decide)
theorem kn7 {r : Option Out} : kI (35, 0, 0) 7 r = r := kn (i := 7) (by decide)
theorem kn8 {r : Option Out} : kI (35, 0, 0) 8 r = r := kn (i := 8) (by decide)
theorem cl0 : (0 : Int32).toNatClampNeg = 0 := rfl
theorem cl1 : (1 : Int32).toNatClampNeg = 1 := rfl
theorem cl2 : (2 : Int32).toNatClampNeg = 2 := rfl
theorem cl3 : (3 : Int32).toNatClampNeg = 3 := rfl
theorem cl4 : (4 : Int32).toNatClampNeg = 4 := rfl
theorem cl5 : (5 : Int32).toNatClampNeg = 5 := rfl
theorem cl6 : (6 : Int32).toNatClampNeg = 6 := rfl
theorem cl7 : (7 : Int32).toNatClampNeg = 7 := rfl
theorem cl8 : (8 : Int32).toNatClampNeg = 8 := rfl
theorem ag35 {S : SS} {k : Nat} : agI S (35, 0, 0) k = S.1 (35, 0, 0) k := rfl
section MODEL
variable {d : Nat} {I : OId → Nat → Int32} {M R : OId → Nat → AV} {G : SG} {V : Vw}
theorem RF.m (h : RF R) : R (12, 0, 0) 0 = aR (35, 0, 0) ∧ R (12, 0, 0) 1 = aR (36, 0, 0) ∧ R (12, 0, 0) 2 = aR (37, 0, 0) ∧ R (12, 0, 0) 3 = aR (38, 0, 0) ∧ R (12, 0, 0) 4 = aR (39, 0, 0) ∧ R (12, 0, 0) 5 = aR (40, 0, 0) ∧ R (12, 0, 0) 6 = aR (41, 0, 0) := h.2.2.2.2.2.2.2
theorem field_N {k f : Nat} (hR : RF R) (hk : k < 7) (hf : f < 6) : evm (d + 1) 231 [aR (12, 0, 0), aI (N k), aI (N f)] (I, M, R, G) = some (.inl (some (aI (I (35, 0, 0) (15 + 6 * k + f)))), (I, M, R, G)) := by
  have e : 15 + 6 * N k + N f = N (15 + 6 * k + f) := by
    show N 15 + N 6 * N k + N f = _
    rw [N_mul, N_add, N_add]
  simp only [m231, s231_0, s231_1, s231_4, s231_6, s231_8, s231_9, s231_10, s231_11, s231_12, s231_13, s231_14, hR.m.1, e, kn (show 15 + 6 * k + f < 106 by omega), N_cl (show 15 + 6 * k + f < 2147483648 by omega), ag35]
theorem fV0 {k : Nat} (hR : RF R) (hV : MV I V) (hk : k < vn V) : evm (d + 1) 231 [aR (12, 0, 0), aI (N k), aI 0] (I, M, R, G) = some (.inl (some (aI (vf V k 0))), (I, M, R, G)) := by
  rw [← hV.2.2.2.1 k hk 0 (by decide)]
  exact field_N (f := 0) hR (Nat.lt_of_lt_of_le hk hV.2.2.1) (by decide)
theorem fV1 {k : Nat} (hR : RF R) (hV : MV I V) (hk : k < vn V) : evm (d + 1) 231 [aR (12, 0, 0), aI (N k), aI 1] (I, M, R, G) = some (.inl (some (aI (vf V k 1))), (I, M, R, G)) := by
  rw [← hV.2.2.2.1 k hk 1 (by decide)]
  exact field_N (f := 1) hR (Nat.lt_of_lt_of_le hk hV.2.2.1) (by decide)
theorem fV2 {k : Nat} (hR : RF R) (hV : MV I V) (hk : k < vn V) : evm (d + 1) 231 [aR (12, 0, 0), aI (N k), aI 2] (I, M, R, G) = some (.inl (some (aI (vf V k 2))), (I, M, R, G)) := by
  rw [← hV.2.2.2.1 k hk 2 (by decide)]
  exact field_N (f := 2) hR (Nat.lt_of_lt_of_le hk hV.2.2.1) (by decide)
theorem fV3 {k : Nat} (hR : RF R) (hV : MV I V) (hk : k < vn V) : evm (d + 1) 231 [aR (12, 0, 0), aI (N k), aI 3] (I, M, R, G) = some (.inl (some (aI (vf V k 3))), (I, M, R, G)) := by
  rw [← hV.2.2.2.1 k hk 3 (by decide)]
  exact field_N (f := 3) hR (Nat.lt_of_lt_of_le hk hV.2.2.1) (by decide)
theorem fV4 {k : Nat} (hR : RF R) (hV : MV I V) (hk : k < vn V) : evm (d + 1) 231 [aR (12, 0, 0), aI (N k), aI 4] (I, M, R, G) = some (.inl (some (aI (vf V k 4))), (I, M, R, G)) := by
  rw [← hV.2.2.2.1 k hk 4 (by decide)]
  exact field_N (f := 4) hR (Nat.lt_of_lt_of_le hk hV.2.2.1) (by decide)
theorem fV5 {k : Nat} (hR : RF R) (hV : MV I V) (hk : k < vn V) : evm (d + 1) 231 [aR (12, 0, 0), aI (N k), aI 5] (I, M, R, G) = some (.inl (some (aI (licv V k))), (I, M, R, G)) := by
  rw [licv, ← hV.2.2.2.2.1 k hk]
  exact field_N (f := 5) hR (Nat.lt_of_lt_of_le hk hV.2.2.1) (by decide)
theorem isLicensed_ok {k : Nat} (hR : RF R) (hV : MV I V) (hk : k < vn V) : evm (d + 2) 230 [aR (12, 0, 0), aI (N k)] (I, M, R, G) = some (.inl (some (aI (licv V k))), (I, M, R, G)) := by
  simp only [m230, s230_0, s230_1, s230_2, s230_3, s230_6, s230_7, s230_10, s230_11, s230_14, s230_15, fV5 hR hV hk, if_false, if_true, ck_v, ck_x, Option.toList, List.cons_append, List.nil_append, kil_nil, N_1, o10, o00, exN_0, exN_1, exN_2, exN_3, exN_4, exN_5, Ex, licv]
  cases vl V k <;> simp
theorem size_ok {x : Int32} {S : SS} : evm (d + 1) 232 [aI x] S = some (.inl (some (aI (ab x))), S) := by
  simp only [m232, s232_0, s232_1, s232_4, s232_5, s232_6, s232_9, s232_10, ite_le, neg_0, ab]
  split <;> rfl
theorem square_ok {x : Int32} {S : SS} : evm (d + 1) 236 [aI x] S = some (.inl (some (aI (x * x))), S) := by
  simp only [m236, s236_0, s236_1, s236_2, s236_3]
theorem distanceTo_ok {k : Nat} {x y : Int32} (hR : RF R) (hV : MV I V) (hk : k < vn V) : evm (d + 2) 235 [aR (12, 0, 0), aI x, aI y, aI (N k)] (I, M, R, G) = some (.inl (some (aI (sqv V k x y))), (I, M, R, G)) := by
  simp only [m235, s235_0, s235_1, s235_2, s235_3, s235_4, s235_7, s235_8, s235_11, s235_12, s235_13, s235_14, s235_15, s235_18, s235_19, s235_22, s235_23, fV1 hR hV hk, fV2 hR hV hk, square_ok, if_false, if_true, ck_v, ck_x, Option.toList, List.cons_append, List.nil_append, kil_nil, N_1, o10, o00, exN_0, exN_1, exN_2, exN_3, exN_4, exN_5, Ex, sqv, sq_c x, sq_c y]
theorem baseTo_ok {k : Nat} {x y : Int32} (hR : RF R) (hV : MV I V) (hk : k < vn V) : evm (d + 3) 234 [aR (12, 0, 0), aI x, aI y, aI (N k)] (I, M, R, G) = some (.inl (some (aI (bsv V k x y))), (I, M, R, G)) := by
  simp only [m234, s234_0, s234_1, s234_2, s234_3, s234_4, s234_7, s234_9, s234_11, s234_12, s234_15, s234_16, s234_17, s234_20, s234_23, s234_24, s234_27, s234_29, s234_30, s234_33, s234_34, s234_35, s234_38, s234_41, s234_42, s234_45, s234_47, s234_48, s234_51, s234_52, s234_53, s234_56, s234_59, s234_60, s234_63, s234_64, distanceTo_ok hR hV hk, square_ok, if_false, if_true, ck_v, ck_x, Option.toList, List.cons_append, List.nil_append, kil_nil, N_1, o10, o00, exN_0, exN_1, exN_2, exN_3, exN_4, exN_5, Ex, hR.m.1, kn0, kn1, kn2, cl0, cl1, cl2, ag35, hV.1.1, hV.1.2.1, hV.1.2.2, ite_le, bsv, bse]
  split
  · rfl
  · split
    · rfl
    · split <;> rfl
theorem baseOf_ok {a b : Nat} (hR : RF R) (hV : MV I V) (ha : a < vn V) (hb : b < vn V) : evm (d + 4) 241 [aR (12, 0, 0), aI (N a), aI (N b)] (I, M, R, G) = some (.inl (some (aI (bs2 V b a))), (I, M, R, G)) := by
  simp only [m241, s241_0, s241_1, s241_2, s241_3, s241_4, s241_7, s241_8, s241_9, s241_10, s241_13, s241_14, s241_17, fV1 hR hV ha, fV2 hR hV ha, baseTo_ok hR hV hb, if_false, if_true, ck_v, ck_x, Option.toList, List.cons_append, List.nil_append, kil_nil, N_1, o10, o00, exN_0, exN_1, exN_2, exN_3, exN_4, exN_5, Ex, bs2]
theorem complaints_ok {a b : Nat} (hR : RF R) (hV : MV I V) (ha : a < vn V) (hb : b < vn V) : evm (d + 1) 237 [aR (12, 0, 0), aI (N a), aI (N b)] (I, M, R, G) = some (.inl (some (aI (vc V a b))), (I, M, R, G)) := by
  have h7 := hV.2.2.1
  have e : 57 + 7 * N a + N b = N (57 + 7 * a + b) := by
    show N 57 + N 7 * N a + N b = _
    rw [N_mul, N_add, N_add]
  simp only [m237, s237_0, s237_1, s237_4, s237_6, s237_8, s237_9, s237_10, s237_11, s237_12, s237_13, s237_14, hR.m.1, e, kn (show 57 + 7 * a + b < 106 by omega), N_cl (show 57 + 7 * a + b < 2147483648 by omega), ag35, hV.2.2.2.2.2 a b ha hb]
/-- the model's separation: of the other's base -/
def spm (V : Vw) (a b : Nat) : Int32 := bs2 V b a + vc V a b
theorem separationOf_ok {a b : Nat} (hR : RF R) (hV : MV I V) (ha : a < vn V) (hb : b < vn V) : evm (d + 5) 240 [aR (12, 0, 0), aI (N a), aI (N b)] (I, M, R, G) = some (.inl (some (aI (spm V a b))), (I, M, R, G)) := by
  simp only [m240, s240_0, s240_1, s240_2, s240_3, s240_6, s240_7, s240_8, s240_9, s240_12, s240_13, baseOf_ok hR hV ha hb, complaints_ok hR hV ha hb, if_false, if_true, ck_v, ck_x, Option.toList, List.cons_append, List.nil_append, kil_nil, N_1, o10, o00, exN_0, exN_1, exN_2, exN_3, exN_4, exN_5, Ex, spm]
theorem conflict_ok {a b : Nat} (hR : RF R) (hV : MV I V) (ha : a < vn V) (hb : b < vn V) : evm (d + 6) 248 [aR (12, 0, 0), aI (N a), aI (N b)] (I, M, R, G) = some (.inl (some (aI (if ab (vf V a 3 - vf V b 3) < spm V a b then 1 else 0))), (I, M, R, G)) := by
  simp only [m248, s248_0, s248_1, s248_2, s248_3, s248_6, s248_7, s248_8, s248_9, s248_12, s248_13, s248_16, s248_17, s248_18, s248_19, s248_22, s248_25, s248_26, s248_29, s248_30, fV3 hR hV ha, fV3 hR hV hb, size_ok, separationOf_ok hR hV ha hb, if_false, if_true, ck_v, ck_x, Option.toList, List.cons_append, List.nil_append, kil_nil, N_1, o10, o00, exN_0, exN_1, exN_2, exN_3, exN_4, exN_5, Ex, ite_le]
  split <;> simp
theorem slotOf_ok {id : Int32} (hR : RF R) (hV : MV I V) : evm (d + 2) 253 [aR (12, 0, 0), aI id] (I, M, R, G) = some (.inl (some (aI (plc (fs (fun k => decide (vf V k 0 = id)) (vn V)) (vn V)))), (I, M, R, G)) := by
  rw [m253]
  have h7 := hV.2.2.1
  simp only [s253_0, s253_1, kil_nil]
  have hs : ∀ k, k < vn V → ev (evm (d + 1)) 253 2 [some (aR (12, 0, 0)), some (aI id), some (aI (N k))] [] [] (I, M, R, G) = if decide (vf V k 0 = id) = true then some (.inl (some (aI (N k))), (I, M, R, G)) else ev (evm (d + 1)) 253 2 [some (aR (12, 0, 0)), some (aI id), some (aI (N (k + 1)))] [] [] (I, M, R, G) := by
    intro k hk
    rw [s253_2]
    simp only [m253, s253_0, s253_1, s253_3, s253_4, s253_7, s253_9, s253_10, s253_13, s253_14, s253_15, s253_16, s253_19, s253_20, s253_23, s253_24, s253_25, s253_28, s253_31, s253_32, hR.m.1, kn7, cl7, ag35, hV.2.1, N_ge hk (show vn V < 2147483648 by omega), fV0 hR hV hk, if_false, if_true, ck_v, ck_x, Option.toList, List.cons_append, List.nil_append, kil_nil, N_1, o10, o00, exN_0, exN_1, exN_2, exN_3, exN_4, exN_5, Ex, decide_eq_true_eq]
  refine (iter_fs (f := fun k => ev (evm (d + 1)) 253 2 [some (aR (12, 0, 0)), some (aI id), some (aI (N k))] [] [] (I, M, R, G)) hs).trans ?_
  have hf : ev (evm (d + 1)) 253 2 [some (aR (12, 0, 0)), some (aI id), some (aI (N (vn V)))] [] [] (I, M, R, G) = some (.inl (some (aI (-1))), (I, M, R, G)) := by
    rw [s253_2]
    simp only [m253, s253_0, s253_1, s253_3, s253_4, s253_7, s253_9, s253_10, s253_13, s253_14, s253_15, s253_16, s253_19, s253_20, s253_23, s253_24, s253_25, s253_28, s253_31, s253_32, hR.m.1, kn7, cl7, ag35, hV.2.1, N_ge1 (Nat.le_refl (vn V)) (show vn V < 2147483648 by omega), if_true]
  rw [hf, plc]
  split <;> rfl
theorem licensedM_ok (hR : RF R) (hV : MV I V) : evm (d + 2) 261 [aR (12, 0, 0)] (I, M, R, G) = some (.inl (some (aI (sm (licv V) (vn V)))), (I, M, R, G)) := by
  rw [m261]
  have h7 := hV.2.2.1
  simp only [s261_0, s261_1, s261_2, s261_3, kil_nil]
  have hs : ∀ k, k < vn V → ev (evm (d + 1)) 261 4 [some (aR (12, 0, 0)), some (aI (sm (licv V) k)), some (aI (N k))] [] [] (I, M, R, G) = ev (evm (d + 1)) 261 4 [some (aR (12, 0, 0)), some (aI (sm (licv V) (k + 1))), some (aI (N (k + 1)))] [] [] (I, M, R, G) := by
    intro k hk
    rw [s261_4, sm_s]
    simp only [m261, s261_0, s261_1, s261_2, s261_3, s261_5, s261_6, s261_9, s261_11, s261_12, s261_15, s261_16, s261_17, s261_18, s261_19, s261_22, s261_23, s261_24, s261_27, s261_30, s261_31, hR.m.1, kn7, cl7, ag35, hV.2.1, N_ge hk (show vn V < 2147483648 by omega), fV5 hR hV hk, if_false, if_true, ck_v, ck_x, Option.toList, List.cons_append, List.nil_append, kil_nil, N_1, o10, o00, exN_0, exN_1, exN_2, exN_3, exN_4, exN_5, Ex]
  refine (iter (f := fun k => ev (evm (d + 1)) 261 4 [some (aR (12, 0, 0)), some (aI (sm (licv V) k)), some (aI (N k))] [] [] (I, M, R, G)) hs).trans ?_
  rw [s261_4]
  simp only [m261, s261_0, s261_1, s261_2, s261_3, s261_5, s261_6, s261_9, s261_11, s261_12, s261_15, s261_16, s261_17, s261_18, s261_19, s261_22, s261_23, s261_24, s261_27, s261_30, s261_31, hR.m.1, kn7, cl7, ag35, hV.2.1, N_ge1 (Nat.le_refl (vn V)) (show vn V < 2147483648 by omega), if_true]
theorem disturbanceM_ok {x y c w : Int32} (hR : RF R) (hV : MV I V) : evm (d + 3) 238 [aR (12, 0, 0), aI x, aI y, aI c, aI w] (I, M, R, G) = some (.inl (some (aI (dst V x y c w))), (I, M, R, G)) := by
  rw [m238]
  have h7 := hV.2.2.1
  simp only [s238_0, s238_1, s238_3, s238_4, kil_nil]
  refine loopJ (n := vn V) (f := fun k (l7 : Option AV) => ev (evm (d + 2)) 238 6 [some (aR (12, 0, 0)), some (aI x), some (aI y), some (aI c), some (aI w), some (aI (sm (dst1 V x y c w) k)), some (aI (N k)), l7] [] [] (I, M, R, G)) (fun k l7 hk => ⟨some (aI (4 - ab (vf V k 3 - c))), ?_⟩) (fun l7 => ?_) none
  · show ev _ 238 6 _ _ _ _ = ev _ 238 6 _ _ _ _
    rw [s238_6, sm_s, dst1]
    simp only [m238, s238_0, s238_1, s238_3, s238_4, s238_8, s238_9, s238_12, s238_14, s238_15, s238_18, s238_19, s238_20, s238_22, s238_23, s238_26, s238_27, s238_28, s238_31, s238_32, s238_34, s238_36, s238_38, s238_40, s238_43, s238_44, s238_46, s238_49, s238_52, s238_53, s238_54, s238_55, s238_57, s238_60, s238_61, s238_64, s238_65, s238_66, s238_69, s238_72, s238_74, s238_77, s238_79, s238_82, s238_83, s238_84, s238_86, s238_89, s238_92, s238_94, hR.m.1, kn7, kn2, cl2, cl7, ag35, hV.2.1, hV.1.2.2, N_ge hk (show vn V < 2147483648 by omega), fV3 hR hV hk, size_ok, square_ok, isLicensed_ok hR hV hk, distanceTo_ok hR hV hk, if_false, if_true, ck_v, ck_x, Option.toList, List.cons_append, List.nil_append, kil_nil, N_1, o10, o00, exN_0, exN_1, exN_2, exN_3, exN_4, exN_5, Ex, ite_le, licv, dsb]
    cases vl V k <;> simp only [Bool.false_eq_true, if_false, if_true, o10, o00, Int32.add_zero] <;> (repeat' split) <;> simp only [Int32.add_zero]
  · show ev _ 238 6 _ _ _ _ = _
    rw [s238_6]
    simp only [m238, s238_0, s238_1, s238_3, s238_4, s238_8, s238_9, s238_12, s238_14, s238_15, s238_18, s238_19, s238_20, s238_22, s238_23, s238_26, s238_27, s238_28, s238_31, s238_32, s238_34, s238_36, s238_38, s238_40, s238_43, s238_44, s238_46, s238_49, s238_52, s238_53, s238_54, s238_55, s238_57, s238_60, s238_61, s238_64, s238_65, s238_66, s238_69, s238_72, s238_74, s238_77, s238_79, s238_82, s238_83, s238_84, s238_86, s238_89, s238_92, s238_94, hR.m.1, kn7, cl7, ag35, hV.2.1, N_ge1 (Nat.le_refl (vn V)) (show vn V < 2147483648 by omega), if_true, dst]
theorem conflictsFor_ok {x y c : Int32} (hR : RF R) (hV : MV I V) : evm (d + 4) 251 [aR (12, 0, 0), aI x, aI y, aI c] (I, M, R, G) = some (.inl (some (aI (cnf V x y c))), (I, M, R, G)) := by
  rw [m251]
  have h7 := hV.2.2.1
  simp only [s251_0, s251_1, s251_3, s251_4, kil_nil]
  have hs : ∀ k, k < vn V → ev (evm (d + 3)) 251 6 [some (aR (12, 0, 0)), some (aI x), some (aI y), some (aI c), some (aI (sm (cnf1 V x y c) k)), some (aI (N k))] [] [] (I, M, R, G) = ev (evm (d + 3)) 251 6 [some (aR (12, 0, 0)), some (aI x), some (aI y), some (aI c), some (aI (sm (cnf1 V x y c) (k + 1))), some (aI (N (k + 1)))] [] [] (I, M, R, G) := by
    intro k hk
    rw [s251_6, sm_s, cnf1]
    simp only [m251, s251_0, s251_1, s251_3, s251_4, s251_8, s251_9, s251_12, s251_14, s251_15, s251_18, s251_20, s251_21, s251_23, s251_24, s251_27, s251_28, s251_29, s251_32, s251_33, s251_34, s251_35, s251_37, s251_40, s251_43, s251_44, s251_47, s251_48, s251_49, s251_51, s251_54, s251_57, s251_59, hR.m.1, kn7, cl7, ag35, hV.2.1, N_ge hk (show vn V < 2147483648 by omega), fV3 hR hV hk, size_ok, baseTo_ok hR hV hk, if_false, if_true, ck_v, ck_x, Option.toList, List.cons_append, List.nil_append, kil_nil, N_1, o10, o00, exN_0, exN_1, exN_2, exN_3, exN_4, exN_5, Ex, ite_le]
    split <;> rfl
  refine (iter (f := fun k => ev (evm (d + 3)) 251 6 [some (aR (12, 0, 0)), some (aI x), some (aI y), some (aI c), some (aI (sm (cnf1 V x y c) k)), some (aI (N k))] [] [] (I, M, R, G)) hs).trans ?_
  rw [s251_6]
  simp only [m251, s251_0, s251_1, s251_3, s251_4, s251_8, s251_9, s251_12, s251_14, s251_15, s251_18, s251_20, s251_21, s251_23, s251_24, s251_27, s251_28, s251_29, s251_32, s251_33, s251_34, s251_35, s251_37, s251_40, s251_43, s251_44, s251_47, s251_48, s251_49, s251_51, s251_54, s251_57, s251_59, hR.m.1, kn7, cl7, ag35, hV.2.1, N_ge1 (Nat.le_refl (vn V)) (show vn V < 2147483648 by omega), if_true, cnf]
theorem aheadByExpiry_ok {p : Nat} (hR : RF R) (hV : MV I V) (hp : p < vn V) : evm (d + 2) 265 [aR (12, 0, 0), aI (N p)] (I, M, R, G) = some (.inl (some (aI (erl V p))), (I, M, R, G)) := by
  rw [m265]
  have h7 := hV.2.2.1
  simp only [s265_0, s265_1, s265_2, s265_3, kil_nil]
  have hs : ∀ k, k < vn V → ev (evm (d + 1)) 265 4 [some (aR (12, 0, 0)), some (aI (N p)), some (aI (sm (erl1 V p) k)), some (aI (N k))] [] [] (I, M, R, G) = ev (evm (d + 1)) 265 4 [some (aR (12, 0, 0)), some (aI (N p)), some (aI (sm (erl1 V p) (k + 1))), some (aI (N (k + 1)))] [] [] (I, M, R, G) := by
    intro k hk
    rw [s265_4, sm_s, erl1]
    have hkp : (N k < N p) = (k < p) := N_lt (by omega) (by omega)
    simp only [m265, s265_0, s265_1, s265_2, s265_3, s265_5, s265_6, s265_9, s265_11, s265_12, s265_15, s265_16, s265_17, s265_18, s265_19, s265_22, s265_23, s265_24, s265_25, s265_28, s265_31, s265_32, s265_33, s265_34, s265_37, s265_38, s265_39, s265_40, s265_43, s265_46, s265_47, s265_48, s265_51, s265_52, s265_55, s265_56, s265_57, s265_58, s265_61, s265_64, s265_65, hR.m.1, kn7, cl7, ag35, hV.2.1, N_ge hk (show vn V < 2147483648 by omega), fV4 hR hV hk, fV4 hR hV hp, if_false, if_true, ck_v, ck_x, Option.toList, List.cons_append, List.nil_append, kil_nil, N_1, o10, o00, exN_0, exN_1, exN_2, exN_3, exN_4, exN_5, Ex, ite_le, hkp]
    (repeat' split) <;> simp_all
  refine (iter (f := fun k => ev (evm (d + 1)) 265 4 [some (aR (12, 0, 0)), some (aI (N p)), some (aI (sm (erl1 V p) k)), some (aI (N k))] [] [] (I, M, R, G)) hs).trans ?_
  rw [s265_4]
  simp only [m265, s265_0, s265_1, s265_2, s265_3, s265_5, s265_6, s265_9, s265_11, s265_12, s265_15, s265_16, s265_17, s265_18, s265_19, s265_22, s265_23, s265_24, s265_25, s265_28, s265_31, s265_32, s265_33, s265_34, s265_37, s265_38, s265_39, s265_40, s265_43, s265_46, s265_47, s265_48, s265_51, s265_52, s265_55, s265_56, s265_57, s265_58, s265_61, s265_64, s265_65, hR.m.1, kn7, cl7, ag35, hV.2.1, N_ge1 (Nat.le_refl (vn V)) (show vn V < 2147483648 by omega), if_true, erl]
end MODEL
