/-! THE METHODS' MEANING: a view of the books, and what is computed of it -/
/-- a view: the radii; how many stations; the fields id, x, y, channel, expiry of each; which are licensed; the complaints -/
abbrev Vw : Type := (Int32 × Int32 × Int32) × Nat × (Nat → Nat → Int32) × (Nat → Bool) × (Nat → Nat → Int32)
abbrev vn (V : Vw) : Nat := V.2.1
abbrev vf (V : Vw) (k f : Nat) : Int32 := V.2.2.1 k f
abbrev vl (V : Vw) (k : Nat) : Bool := V.2.2.2.1 k
abbrev vc (V : Vw) (a b : Nat) : Int32 := V.2.2.2.2 a b
/-- the books j are so -/
def BV (I : OId → Nat → Int32) (j : Nat) (V : Vw) : Prop := (I (4, j, 0) 0 = V.1.1 ∧ I (4, j, 0) 1 = V.1.2.1 ∧ I (4, j, 0) 2 = V.1.2.2) ∧ I (4, j, 0) 7 = N (vn V) ∧ vn V ≤ 7 ∧ (∀ k, k < vn V → ∀ f, f < 5 → I (10, j, k) f = vf V k f) ∧ (∀ k, k < vn V → bb (I (10, j, k) 5) = if vl V k = true then 0 else 1) ∧ ∀ a b, a < vn V → b < vn V → I (21, j, 0) (7 * a + b) = vc V a b
def sqv (V : Vw) (k : Nat) (x y : Int32) : Int32 := (vf V k 1 - x) * (vf V k 1 - x) + (vf V k 2 - y) * (vf V k 2 - y)
def bsv (V : Vw) (k : Nat) (x y : Int32) : Int32 := bse V.1.1 V.1.2.1 V.1.2.2 (sqv V k x y)
def bs2 (V : Vw) (a b : Nat) : Int32 := bsv V a (vf V b 1) (vf V b 2)
def spv (V : Vw) (a b : Nat) : Int32 := bs2 V a b + vc V a b
def mgv (V : Vw) (a b : Nat) : Int32 := ab (vf V a 3 - vf V b 3) - spv V a b
def dsb (c o : Int32) : Int32 := if 0 < 4 - ab (c - o) then 4 - ab (c - o) else 0
def licv (V : Vw) (k : Nat) : Int32 := if vl V k = true then 1 else 0
/-- what station k adds to the disturbance at a point and a channel -/
def dst1 (V : Vw) (x y c w : Int32) (k : Nat) : Int32 := if N k = w then 0 else if vl V k = true then (if sqv V k x y < V.1.2.2 * V.1.2.2 then dsb (vf V k 3) c else 0) else 0
def dst (V : Vw) (x y c w : Int32) : Int32 := sm (dst1 V x y c w) (vn V)
def cnf1 (V : Vw) (x y c : Int32) (k : Nat) : Int32 := if ab (vf V k 3 - c) < bsv V k x y then 1 else 0
def cnf (V : Vw) (x y c : Int32) : Int32 := sm (cnf1 V x y c) (vn V)
def sdv (V : Vw) : Int32 := sm (fun k => if vl V k = true then dst V (vf V k 1) (vf V k 2) (vf V k 3) (N k) else 0) (vn V)
/-- does k stand before p in the order of expiry? -/
def erl1 (V : Vw) (p k : Nat) : Int32 := if vf V k 4 < vf V p 4 then 1 else if vf V k 4 = vf V p 4 then (if k < p then 1 else 0) else 0
def erl (V : Vw) (p : Nat) : Int32 := sm (erl1 V p) (vn V)
section BVL
variable {d j : Nat} {I : OId → Nat → Int32} {M R : OId → Nat → AV} {G : SG} {V : Vw}
theorem BV.fl (h : BV I j V) {k : Nat} (hk : k < vn V) {f : Nat} (hf : f < 5) : I (10, j, k) f = vf V k f := h.2.2.2.1 k hk f hf
theorem BV.lt (h : BV I j V) {k : Nat} (hk : k < vn V) : k < 7 := Nat.lt_of_lt_of_le hk h.2.2.1
theorem BV.sq (h : BV I j V) {k : Nat} (hk : k < vn V) (x y : Int32) : sqP I j k x y = sqv V k x y := by
  simp only [sqP, sqv, h.fl hk (show 1 < 5 by decide), h.fl hk (show 2 < 5 by decide)]
theorem bsP_u {I9 : OId → Nat → Int32} {j9 k9 : Nat} {x9 y9 : Int32} : bsP I9 j9 k9 x9 y9 = bse (I9 (4, j9, 0) 0) (I9 (4, j9, 0) 1) (I9 (4, j9, 0) 2) (sqP I9 j9 k9 x9 y9) := rfl
theorem BV.bsP (h : BV I j V) {k : Nat} (hk : k < vn V) (x y : Int32) : bsP I j k x y = bsv V k x y := by
  simp only [bsP_u, bsv, h.sq hk, h.1.1, h.1.2.1, h.1.2.2]
theorem BV.bs (h : BV I j V) {a b : Nat} (ha : a < vn V) (hb : b < vn V) : bsB I j a b = bs2 V a b := by
  simp only [bsB, bs2, h.bsP ha, h.fl hb (show 1 < 5 by decide), h.fl hb (show 2 < 5 by decide)]
theorem BV.cm (h : BV I j V) {a b : Nat} (ha : a < vn V) (hb : b < vn V) : cmB I j a b = vc V a b := h.2.2.2.2.2 a b ha hb
theorem BV.sp (h : BV I j V) {a b : Nat} (ha : a < vn V) (hb : b < vn V) : spB I j a b = spv V a b := by
  simp only [spB, spv, h.bs ha hb, h.cm ha hb]
theorem BV.mg (h : BV I j V) {a b : Nat} (ha : a < vn V) (hb : b < vn V) : mgB I j a b = mgv V a b := by
  simp only [mgB, mgv, h.sp ha hb, h.fl hb (show 3 < 5 by decide), h.fl ha (show 3 < 5 by decide)]
theorem disturbs_ok {c o : Int32} {S : SS} : evm (d + 1) 74 [aI c, aI o] S = some (.inl (some (aI (dsb c o))), S) := by
  simp only [m74, s74_0, s74_1, s74_2, s74_3, s74_4, s74_5, s74_8, s74_9, s74_12, dsb, ab_g, ab_f]
theorem findV {id : Int32} (hR : RF R) (hj : j < 8) (h : BV I j V) : evm (d + 2) 19 [aR (4, j, 0), aI id] (I, M, R, G) = some (.inl (some (aI (plc (fs (fun k => decide (vf V k 0 = id)) (vn V)) (vn V)))), (I, M, R, G)) := by
  rw [find_ok hR hj h.2.1 h.2.2.1]
  have e : fs (idB I j id) (vn V) = fs (fun k => decide (vf V k 0 = id)) (vn V) := fs_congr (fun k hk => by rw [idB, h.fl hk (by decide)])
  rw [e]
theorem licensedV (hR : RF R) (hj : j < 8) (h : BV I j V) : evm (d + 2) 16 [aR (4, j, 0)] (I, M, R, G) = some (.inl (some (aI (sm (licv V) (vn V)))), (I, M, R, G)) := by
  rw [countLicensed_ok hR hj h.2.1 h.2.2.1]
  have e : sm (lic I j) (vn V) = sm (licv V) (vn V) := sm_congr (fun k hk => by
    simp only [lic, licv, h.2.2.2.2.1 k hk]
    cases vl V k <;> simp)
  rw [e]
theorem disturbanceV {x y c w : Int32} (hR : RF R) (hj : j < 8) (h : BV I j V) : evm (d + 2) 86 [aR (4, j, 0), aI x, aI y, aI c, aI w] (I, M, R, G) = some (.inl (some (aI (dst V x y c w))), (I, M, R, G)) := by
  rw [m86]
  simp only [s86_0, s86_1, s86_3, s86_4, kil_nil]
  refine loopJ (n := vn V) (f := fun k (l7 : Option AV) => ev (evm (d + 1)) 86 6 [some (aR (4, j, 0)), some (aI x), some (aI y), some (aI c), some (aI w), some (aI (sm (dst1 V x y c w) k)), some (aI (N k)), l7] [] [] (I, M, R, G)) (fun k l7 hk => ⟨some (aR (10, j, k)), ?_⟩) (fun l7 => ?_) none
  · show ev _ 86 6 _ _ _ _ = ev _ 86 6 _ _ _ _
    rw [s86_6, sm_s, dst1]
    simp only [m86, s86_0, s86_1, s86_3, s86_4, s86_8, s86_9, s86_12, s86_15, s86_16, s86_18, s86_21, s86_23, s86_25, s86_27, s86_30, s86_32, s86_35, s86_38, s86_40, s86_41, s86_42, s86_45, s86_46, s86_49, s86_50, s86_53, s86_54, s86_57, s86_59, s86_61, s86_64, s86_65, s86_68, s86_69, s86_71, s86_74, s86_77, s86_79, h.2.1, N_ge hk (show vn V < 2147483648 by have := h.2.2.1; omega), if_false, at_N hR hj (h.lt hk), ck_v, Option.toList, List.cons_append, List.nil_append, kil_nil, N_1, squaredTo_ok, disturbs_ok, h.sq hk, h.2.2.2.2.1 k hk, h.fl hk (show 3 < 5 by decide), h.1.2.2, ite_le]
    cases vl V k <;> simp only [Bool.false_eq_true, if_false, if_true, o10, o00, Int32.add_zero] <;> (repeat' split) <;> simp only [Int32.add_zero]
  · show ev _ 86 6 _ _ _ _ = _
    rw [s86_6]
    simp only [m86, s86_0, s86_1, s86_3, s86_4, s86_8, s86_9, s86_12, s86_15, s86_16, s86_18, s86_21, s86_23, s86_25, s86_27, s86_30, s86_32, s86_35, s86_38, s86_40, s86_41, s86_42, s86_45, s86_46, s86_49, s86_50, s86_53, s86_54, s86_57, s86_59, s86_61, s86_64, s86_65, s86_68, s86_69, s86_71, s86_74, s86_77, s86_79, h.2.1, N_ge1 (Nat.le_refl (vn V)) (show vn V < 2147483648 by have := h.2.2.1; omega), if_true, dst]
theorem conflictsBefore_ok {p : Nat} (hR : RF R) (hj : j < 8) (h : BV I j V) (hp : p < vn V) : evm (d + 5) 23 [aR (4, j, 0), aI (N p)] (I, M, R, G) = some (.inl (some (aI (if fs (fun k => decide (mgv V k p < 0)) p < p then 1 else 0))), (I, M, R, G)) := by
  rw [m23]
  simp only [s23_0, s23_1, kil_nil]
  have h7 := h.2.2.1
  have hs : ∀ k, k < p → ev (evm (d + 4)) 23 2 [some (aR (4, j, 0)), some (aI (N p)), some (aI (N k))] [] [] (I, M, R, G) = if decide (mgv V k p < 0) = true then some (.inl (some (aI 1)), (I, M, R, G)) else ev (evm (d + 4)) 23 2 [some (aR (4, j, 0)), some (aI (N p)), some (aI (N (k + 1)))] [] [] (I, M, R, G) := by
    intro k hk
    rw [s23_2]
    simp only [m23, s23_0, s23_1, s23_3, s23_4, s23_7, s23_8, s23_9, s23_10, s23_13, s23_16, s23_17, s23_18, s23_21, s23_24, s23_25, N_ge hk (show p < 2147483648 by omega), if_false, mgB_ok hR hj (show k < 7 by omega) (show p < 7 by omega), h.mg (show k < vn V by omega) hp, ck_v, Option.toList, List.cons_append, List.nil_append, kil_nil, N_1, decide_eq_true_eq, ite_le, or_true, if_true]
  refine (iter_fs (f := fun k => ev (evm (d + 4)) 23 2 [some (aR (4, j, 0)), some (aI (N p)), some (aI (N k))] [] [] (I, M, R, G)) hs).trans ?_
  have hf : ev (evm (d + 4)) 23 2 [some (aR (4, j, 0)), some (aI (N p)), some (aI (N p))] [] [] (I, M, R, G) = some (.inl (some (aI 0)), (I, M, R, G)) := by
    rw [s23_2]
    simp only [m23, s23_0, s23_1, s23_3, s23_4, s23_7, s23_8, s23_9, s23_10, s23_13, s23_16, s23_17, s23_18, s23_21, s23_24, s23_25, N_ge1 (Nat.le_refl p) (show p < 2147483648 by omega), if_true, true_or]
  rw [hf]
  split <;> rfl
/-- is k a licensed station other than p that conflicts with p? -/
def way (V : Vw) (p k : Nat) : Bool := decide (k ≠ p) && (vl V k && decide (mgv V k p < 0))
theorem conflictsWithLicensed_ok {p : Nat} (hR : RF R) (hj : j < 8) (h : BV I j V) (hp : p < vn V) : evm (d + 5) 80 [aR (4, j, 0), aI (N p)] (I, M, R, G) = some (.inl (some (aI (if fs (way V p) (vn V) < vn V then 1 else 0))), (I, M, R, G)) := by
  rw [m80]
  simp only [s80_0, s80_1, kil_nil]
  have h7 := h.2.2.1
  have hs : ∀ k, k < vn V → ev (evm (d + 4)) 80 2 [some (aR (4, j, 0)), some (aI (N p)), some (aI (N k))] [] [] (I, M, R, G) = if way V p k = true then some (.inl (some (aI 1)), (I, M, R, G)) else ev (evm (d + 4)) 80 2 [some (aR (4, j, 0)), some (aI (N p)), some (aI (N (k + 1)))] [] [] (I, M, R, G) := by
    intro k hk
    rw [s80_2]
    have hkp : (N k = N p) = (k = p) := N_inj (by omega) (by omega)
    simp only [m80, s80_0, s80_1, s80_3, s80_4, s80_7, s80_10, s80_11, s80_12, s80_15, s80_16, s80_17, s80_20, s80_23, s80_26, s80_27, s80_28, s80_29, s80_32, s80_35, s80_36, s80_37, s80_40, s80_43, s80_44, h.2.1, N_ge hk (show vn V < 2147483648 by omega), if_false, hkp, at_N hR hj (h.lt hk), h.2.2.2.2.1 k hk, mgB_ok hR hj (show k < 7 by omega) (show p < 7 by omega), h.mg hk hp, ck_v, Option.toList, List.cons_append, List.nil_append, kil_nil, N_1, ite_le, or_true, if_true, way]
    by_cases hq : k = p
    · simp [hq]
    · by_cases hl : vl V k = true <;> by_cases hm : mgv V k p < 0 <;> simp [hq, hm, hl]
  refine (iter_fs (f := fun k => ev (evm (d + 4)) 80 2 [some (aR (4, j, 0)), some (aI (N p)), some (aI (N k))] [] [] (I, M, R, G)) hs).trans ?_
  have hf : ev (evm (d + 4)) 80 2 [some (aR (4, j, 0)), some (aI (N p)), some (aI (N (vn V)))] [] [] (I, M, R, G) = some (.inl (some (aI 0)), (I, M, R, G)) := by
    rw [s80_2]
    simp only [m80, s80_0, s80_1, s80_3, s80_4, s80_7, s80_10, s80_11, s80_12, s80_15, s80_16, s80_17, s80_20, s80_23, s80_26, s80_27, s80_28, s80_29, s80_32, s80_35, s80_36, s80_37, s80_40, s80_43, s80_44, h.2.1, N_ge1 (Nat.le_refl (vn V)) (show vn V < 2147483648 by omega), if_true, true_or]
  rw [hf]
  split <;> rfl
theorem countConflicts_ok {x y c : Int32} (hR : RF R) (hj : j < 8) (h : BV I j V) : evm (d + 2) 87 [aR (4, j, 0), aI x, aI y, aI c] (I, M, R, G) = some (.inl (some (aI (cnf V x y c))), (I, M, R, G)) := by
  rw [m87]
  have h7 := h.2.2.1
  simp only [s87_0, s87_1, s87_3, s87_4, kil_nil]
  refine loopJ (n := vn V) (f := fun k (l7 : Option AV) => ev (evm (d + 1)) 87 6 [some (aR (4, j, 0)), some (aI x), some (aI y), some (aI c), some (aI (sm (cnf1 V x y c) k)), some (aI (N k)), l7] [] [] (I, M, R, G)) (fun k l7 hk => ⟨some (aI (bsv V k x y)), ?_⟩) (fun l7 => ?_) none
  · show ev _ 87 6 _ _ _ _ = ev _ 87 6 _ _ _ _
    rw [s87_6, sm_s, cnf1]
    simp only [m87, s87_0, s87_1, s87_3, s87_4, s87_8, s87_9, s87_12, s87_15, s87_16, s87_17, s87_19, s87_22, s87_23, s87_24, s87_27, s87_30, s87_32, s87_34, s87_35, s87_37, s87_40, s87_43, s87_44, s87_45, s87_48, s87_50, s87_53, s87_54, s87_57, s87_58, s87_59, s87_61, s87_64, s87_67, s87_69, h.2.1, N_ge hk (show vn V < 2147483648 by omega), if_false, at_N hR hj (h.lt hk), ck_v, Option.toList, List.cons_append, List.nil_append, kil_nil, N_1, squaredTo_ok, baseAt_ok, h.sq hk, h.fl hk (show 3 < 5 by decide), h.1.1, h.1.2.1, h.1.2.2, ab_g, ab_f, ite_le, bsv]
    split <;> rename_i hz <;> simp only [hz, if_true, if_false]
  · show ev _ 87 6 _ _ _ _ = _
    rw [s87_6]
    simp only [m87, s87_0, s87_1, s87_3, s87_4, s87_8, s87_9, s87_12, s87_15, s87_16, s87_17, s87_19, s87_22, s87_23, s87_24, s87_27, s87_30, s87_32, s87_34, s87_35, s87_37, s87_40, s87_43, s87_44, s87_45, s87_48, s87_50, s87_53, s87_54, s87_57, s87_58, s87_59, s87_61, s87_64, s87_67, s87_69, h.2.1, N_ge1 (Nat.le_refl (vn V)) (show vn V < 2147483648 by omega), if_true, cnf]
theorem sumOfDisturbances_ok (hR : RF R) (hj : j < 8) (h : BV I j V) : evm (d + 3) 135 [aR (4, j, 0)] (I, M, R, G) = some (.inl (some (aI (sdv V))), (I, M, R, G)) := by
  rw [m135]
  have h7 := h.2.2.1
  simp only [s135_0, s135_1, s135_2, s135_3, kil_nil]
  refine loopJ (n := vn V) (f := fun k (l7 : Option AV) => ev (evm (d + 2)) 135 4 [some (aR (4, j, 0)), some (aI (sm (fun k => if vl V k = true then dst V (vf V k 1) (vf V k 2) (vf V k 3) (N k) else 0) k)), some (aI (N k)), l7] [] [] (I, M, R, G)) (fun k l7 hk => ⟨some (aR (10, j, k)), ?_⟩) (fun l7 => ?_) none
  · show ev _ 135 4 _ _ _ _ = ev _ 135 4 _ _ _ _
    rw [s135_4, sm_s]
    simp only [m135, s135_0, s135_1, s135_2, s135_3, s135_5, s135_6, s135_9, s135_12, s135_13, s135_14, s135_17, s135_18, s135_19, s135_22, s135_25, s135_26, s135_27, s135_28, s135_31, s135_32, s135_35, s135_36, s135_39, s135_40, s135_43, s135_44, s135_45, s135_48, s135_51, s135_52, h.2.1, N_ge hk (show vn V < 2147483648 by omega), if_false, at_N hR hj (h.lt hk), ck_v, Option.toList, List.cons_append, List.nil_append, kil_nil, N_1, h.2.2.2.2.1 k hk, h.fl hk (show 1 < 5 by decide), h.fl hk (show 2 < 5 by decide), h.fl hk (show 3 < 5 by decide), disturbanceV hR hj h]
    cases vl V k <;> simp only [Bool.false_eq_true, if_false, if_true, o10, o00, Int32.add_zero]
  · show ev _ 135 4 _ _ _ _ = _
    rw [s135_4]
    simp only [m135, s135_0, s135_1, s135_2, s135_3, s135_5, s135_6, s135_9, s135_12, s135_13, s135_14, s135_17, s135_18, s135_19, s135_22, s135_25, s135_26, s135_27, s135_28, s135_31, s135_32, s135_35, s135_36, s135_39, s135_40, s135_43, s135_44, s135_45, s135_48, s135_51, s135_52, h.2.1, N_ge1 (Nat.le_refl (vn V)) (show vn V < 2147483648 by omega), if_true, sdv]
theorem countEarlier_ok {p : Nat} (hR : RF R) (hj : j < 8) (h : BV I j V) (hp : p < vn V) : evm (d + 2) 105 [aR (4, j, 0), aI (N p)] (I, M, R, G) = some (.inl (some (aI (erl V p))), (I, M, R, G)) := by
  rw [m105]
  have h7 := h.2.2.1
  simp only [s105_0, s105_1, s105_2, at_N hR hj (h.lt hp), ck_v, Option.toList, List.cons_append, List.nil_append, s105_5, s105_8, s105_9, s105_10, s105_11, s105_12, kil_nil, h.fl hp (show 4 < 5 by decide)]
  refine loopJ (n := vn V) (f := fun k (l7 : Option AV) => ev (evm (d + 1)) 105 14 [some (aR (4, j, 0)), some (aI (N p)), some (aI (vf V p 4)), some (aI (sm (erl1 V p) k)), some (aI (N k)), l7] [] [] (I, M, R, G)) (fun k l7 hk => ⟨some (aI (if vf V k 4 < vf V p 4 then 1 else if vf V k 4 = vf V p 4 then (if k < p then 1 else 0) else 0)), ?_⟩) (fun l7 => ?_) none
  · show ev _ 105 14 _ _ _ _ = ev _ 105 14 _ _ _ _
    rw [s105_14, sm_s, erl1]
    have hkp : (N k < N p) = (k < p) := N_lt (by omega) (by omega)
    simp only [m105, s105_0, s105_1, s105_2, s105_5, s105_8, s105_9, s105_10, s105_11, s105_12, s105_16, s105_17, s105_20, s105_23, s105_24, s105_26, s105_29, s105_32, s105_33, s105_36, s105_37, s105_39, s105_42, s105_45, s105_46, s105_49, s105_51, s105_52, s105_55, s105_56, s105_59, s105_60, s105_62, s105_63, s105_65, s105_68, s105_69, s105_72, s105_73, s105_74, s105_75, s105_78, s105_81, s105_82, h.2.1, N_ge hk (show vn V < 2147483648 by omega), if_false, at_N hR hj (h.lt hk), ck_v, Option.toList, List.cons_append, List.nil_append, kil_nil, N_1, h.fl hk (show 4 < 5 by decide), ite_le, hkp, o10, o00, if_true]
    (repeat' split) <;> simp_all
  · show ev _ 105 14 _ _ _ _ = _
    rw [s105_14]
    simp only [m105, s105_0, s105_1, s105_2, s105_5, s105_8, s105_9, s105_10, s105_11, s105_12, s105_16, s105_17, s105_20, s105_23, s105_24, s105_26, s105_29, s105_32, s105_33, s105_36, s105_37, s105_39, s105_42, s105_45, s105_46, s105_49, s105_51, s105_52, s105_55, s105_56, s105_59, s105_60, s105_62, s105_63, s105_65, s105_68, s105_69, s105_72, s105_73, s105_74, s105_75, s105_78, s105_81, s105_82, h.2.1, N_ge1 (Nat.le_refl (vn V)) (show vn V < 2147483648 by omega), if_true, erl]
theorem placeByExpiry_ok {q : Int32} (hR : RF R) (hj : j < 8) (h : BV I j V) : evm (d + 3) 104 [aR (4, j, 0), aI q] (I, M, R, G) = some (.inl (some (aI (plc (fs (fun k => decide (erl V k = q)) (vn V)) (vn V)))), (I, M, R, G)) := by
  rw [m104]
  have h7 := h.2.2.1
  simp only [s104_0, s104_1, kil_nil]
  have hs : ∀ k, k < vn V → ev (evm (d + 2)) 104 2 [some (aR (4, j, 0)), some (aI q), some (aI (N k))] [] [] (I, M, R, G) = if decide (erl V k = q) = true then some (.inl (some (aI (N k))), (I, M, R, G)) else ev (evm (d + 2)) 104 2 [some (aR (4, j, 0)), some (aI q), some (aI (N (k + 1)))] [] [] (I, M, R, G) := by
    intro k hk
    rw [s104_2]
    simp only [m104, s104_0, s104_1, s104_3, s104_4, s104_7, s104_10, s104_11, s104_12, s104_15, s104_16, s104_19, s104_20, s104_21, s104_24, s104_27, s104_28, h.2.1, N_ge hk (show vn V < 2147483648 by omega), if_false, countEarlier_ok hR hj h hk, ck_v, Option.toList, List.cons_append, List.nil_append, kil_nil, N_1, decide_eq_true_eq]
  refine (iter_fs (f := fun k => ev (evm (d + 2)) 104 2 [some (aR (4, j, 0)), some (aI q), some (aI (N k))] [] [] (I, M, R, G)) hs).trans ?_
  have hf : ev (evm (d + 2)) 104 2 [some (aR (4, j, 0)), some (aI q), some (aI (N (vn V)))] [] [] (I, M, R, G) = some (.inl (some (aI (-1))), (I, M, R, G)) := by
    rw [s104_2]
    simp only [m104, s104_0, s104_1, s104_3, s104_4, s104_7, s104_10, s104_11, s104_12, s104_15, s104_16, s104_19, s104_20, s104_21, s104_24, s104_27, s104_28, h.2.1, N_ge1 (Nat.le_refl (vn V)) (show vn V < 2147483648 by omega), if_true]
  rw [hf, plc]
  split <;> rfl
end BVL
