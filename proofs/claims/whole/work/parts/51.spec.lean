/-! THE METHODS' MEANING: what is asked of two stations -/
def sq2 (V : Vw) (a b : Nat) : Int32 := sqv V a (vf V b 1) (vf V b 2)
theorem sq2_c (V : Vw) (a b : Nat) : sq2 V a b = sq2 V b a := by
  unfold sq2 sqv
  rw [sq_c (vf V a 1), sq_c (vf V a 2)]
theorem sq2m (V : Vw) (a b : Nat) : sqv V b (vf V a 1) (vf V a 2) = sq2 V a b := (sq2_c V a b).symm
theorem bs2_c {V : Vw} (a b : Nat) : bs2 V a b = bs2 V b a := by
  unfold bs2 bsv
  have h := sq2_c V a b
  unfold sq2 at h
  rw [h]
/-- the number that a wrong pair gives -/
def prT (V : Vw) (id other : Int32) : Int32 := if fid V id < vn V then (if fid V other < vn V then (if id = other then 2 else 0) else 1) else 1
theorem prT_0 {V : Vw} {id other : Int32} (h : prT V id other = 0) : fid V id < vn V ∧ fid V other < vn V ∧ id ≠ other := by
  unfold prT at h
  split at h
  · split at h
    · split at h
      · exact absurd h (by decide)
      · exact ⟨by assumption, by assumption, by assumption⟩
    · exact absurd h (by decide)
  · exact absurd h (by decide)
section PAIRS
variable {d : Nat} {I : OId → Nat → Int32} {M R : OId → Nat → AV} {G : SG} {V : Vw}
theorem squaredDistance_ok {id other : Int32} (hR : RF R) (h : BV I 0 V) : evm (d + 5) 117 [aR (11, 0, 0), aI id, aI other] (I, M, R, G) = if fid V id < vn V then (if fid V other < vn V then (if id = other then Ex 0 (I, M, R, G) else some (.inl (some (aI (sq2 V (fid V id) (fid V other)))), (I, M, R, G))) else Ex 3 (I, M, R, G)) else Ex 3 (I, M, R, G) := by
  by_cases h1 : fid V id < vn V
  · by_cases h2 : fid V other < vn V
    · by_cases h3 : id = other
      · simp only [m117, s117_0, s117_1, s117_2, s117_5, s117_6, s117_7, s117_10, s117_11, s117_12, s117_13, s117_14, s117_17, s117_20, hR.o.1, placeOf_ok hR h, placeOfOther_ok hR h, if_pos h1, if_pos h2, if_pos h3, if_false, if_true, ck_v, ck_x, Option.toList, List.cons_append, List.nil_append, kil_nil, N_1, o10, o00, exN_0, exN_1, exN_2, exN_3, exN_4, exN_5, Ex]
      · simp only [m117, s117_0, s117_1, s117_2, s117_5, s117_6, s117_7, s117_10, s117_11, s117_12, s117_13, s117_14, s117_17, s117_20, hR.o.1, placeOf_ok hR h, placeOfOther_ok hR h, if_pos h1, if_pos h2, if_neg h3, if_false, if_true, ck_v, ck_x, Option.toList, List.cons_append, List.nil_append, kil_nil, N_1, o10, o00, exN_0, exN_1, exN_2, exN_3, exN_4, exN_5, Ex, sqB_ok hR (show 0 < 8 by decide) (h.lt h1) (h.lt h2), h.sq h1, h.fl h2 (show 1 < 5 by decide), h.fl h2 (show 2 < 5 by decide), sq2]
    · simp only [m117, s117_0, s117_1, s117_2, s117_5, s117_6, s117_7, s117_10, s117_11, s117_12, s117_13, s117_14, s117_17, s117_20, hR.o.1, placeOf_ok hR h, placeOfOther_ok hR h, if_pos h1, if_neg h2, if_false, if_true, ck_v, ck_x, Option.toList, List.cons_append, List.nil_append, kil_nil, N_1, o10, o00, exN_0, exN_1, exN_2, exN_3, exN_4, exN_5, Ex]
  · simp only [m117, s117_0, s117_1, s117_2, s117_5, s117_6, s117_7, s117_10, s117_11, s117_12, s117_13, s117_14, s117_17, s117_20, hR.o.1, placeOf_ok hR h, placeOfOther_ok hR h, if_neg h1, if_false, if_true, ck_v, ck_x, Option.toList, List.cons_append, List.nil_append, kil_nil, N_1, o10, o00, exN_0, exN_1, exN_2, exN_3, exN_4, exN_5, Ex]
theorem baseSeparation_ok {id other : Int32} (hR : RF R) (h : BV I 0 V) : evm (d + 5) 121 [aR (11, 0, 0), aI id, aI other] (I, M, R, G) = if fid V id < vn V then (if fid V other < vn V then (if id = other then Ex 0 (I, M, R, G) else some (.inl (some (aI (bs2 V (fid V id) (fid V other)))), (I, M, R, G))) else Ex 3 (I, M, R, G)) else Ex 3 (I, M, R, G) := by
  by_cases h1 : fid V id < vn V
  · by_cases h2 : fid V other < vn V
    · by_cases h3 : id = other
      · simp only [m121, s121_0, s121_1, s121_2, s121_5, s121_6, s121_7, s121_10, s121_11, s121_12, s121_13, s121_14, s121_17, s121_20, hR.o.1, placeOf_ok hR h, placeOfOther_ok hR h, if_pos h1, if_pos h2, if_pos h3, if_false, if_true, ck_v, ck_x, Option.toList, List.cons_append, List.nil_append, kil_nil, N_1, o10, o00, exN_0, exN_1, exN_2, exN_3, exN_4, exN_5, Ex]
      · simp only [m121, s121_0, s121_1, s121_2, s121_5, s121_6, s121_7, s121_10, s121_11, s121_12, s121_13, s121_14, s121_17, s121_20, hR.o.1, placeOf_ok hR h, placeOfOther_ok hR h, if_pos h1, if_pos h2, if_neg h3, if_false, if_true, ck_v, ck_x, Option.toList, List.cons_append, List.nil_append, kil_nil, N_1, o10, o00, exN_0, exN_1, exN_2, exN_3, exN_4, exN_5, Ex, bsB_ok hR (show 0 < 8 by decide) (h.lt h1) (h.lt h2), h.bs h1 h2]
    · simp only [m121, s121_0, s121_1, s121_2, s121_5, s121_6, s121_7, s121_10, s121_11, s121_12, s121_13, s121_14, s121_17, s121_20, hR.o.1, placeOf_ok hR h, placeOfOther_ok hR h, if_pos h1, if_neg h2, if_false, if_true, ck_v, ck_x, Option.toList, List.cons_append, List.nil_append, kil_nil, N_1, o10, o00, exN_0, exN_1, exN_2, exN_3, exN_4, exN_5, Ex]
  · simp only [m121, s121_0, s121_1, s121_2, s121_5, s121_6, s121_7, s121_10, s121_11, s121_12, s121_13, s121_14, s121_17, s121_20, hR.o.1, placeOf_ok hR h, placeOfOther_ok hR h, if_neg h1, if_false, if_true, ck_v, ck_x, Option.toList, List.cons_append, List.nil_append, kil_nil, N_1, o10, o00, exN_0, exN_1, exN_2, exN_3, exN_4, exN_5, Ex]
theorem complaintCount_ok {id other : Int32} (hR : RF R) (h : BV I 0 V) : evm (d + 5) 123 [aR (11, 0, 0), aI id, aI other] (I, M, R, G) = if fid V id < vn V then (if fid V other < vn V then (if id = other then Ex 0 (I, M, R, G) else some (.inl (some (aI (vc V (fid V id) (fid V other)))), (I, M, R, G))) else Ex 3 (I, M, R, G)) else Ex 3 (I, M, R, G) := by
  by_cases h1 : fid V id < vn V
  · by_cases h2 : fid V other < vn V
    · by_cases h3 : id = other
      · simp only [m123, s123_0, s123_1, s123_2, s123_5, s123_6, s123_7, s123_10, s123_11, s123_12, s123_13, s123_14, s123_17, s123_20, hR.o.1, placeOf_ok hR h, placeOfOther_ok hR h, if_pos h1, if_pos h2, if_pos h3, if_false, if_true, ck_v, ck_x, Option.toList, List.cons_append, List.nil_append, kil_nil, N_1, o10, o00, exN_0, exN_1, exN_2, exN_3, exN_4, exN_5, Ex]
      · simp only [m123, s123_0, s123_1, s123_2, s123_5, s123_6, s123_7, s123_10, s123_11, s123_12, s123_13, s123_14, s123_17, s123_20, hR.o.1, placeOf_ok hR h, placeOfOther_ok hR h, if_pos h1, if_pos h2, if_neg h3, if_false, if_true, ck_v, ck_x, Option.toList, List.cons_append, List.nil_append, kil_nil, N_1, o10, o00, exN_0, exN_1, exN_2, exN_3, exN_4, exN_5, Ex, cmB_ok hR (show 0 < 8 by decide) (h.lt h1) (h.lt h2), h.cm h1 h2]
    · simp only [m123, s123_0, s123_1, s123_2, s123_5, s123_6, s123_7, s123_10, s123_11, s123_12, s123_13, s123_14, s123_17, s123_20, hR.o.1, placeOf_ok hR h, placeOfOther_ok hR h, if_pos h1, if_neg h2, if_false, if_true, ck_v, ck_x, Option.toList, List.cons_append, List.nil_append, kil_nil, N_1, o10, o00, exN_0, exN_1, exN_2, exN_3, exN_4, exN_5, Ex]
  · simp only [m123, s123_0, s123_1, s123_2, s123_5, s123_6, s123_7, s123_10, s123_11, s123_12, s123_13, s123_14, s123_17, s123_20, hR.o.1, placeOf_ok hR h, placeOfOther_ok hR h, if_neg h1, if_false, if_true, ck_v, ck_x, Option.toList, List.cons_append, List.nil_append, kil_nil, N_1, o10, o00, exN_0, exN_1, exN_2, exN_3, exN_4, exN_5, Ex]
theorem separation_ok {id other : Int32} (hR : RF R) (h : BV I 0 V) : evm (d + 5) 125 [aR (11, 0, 0), aI id, aI other] (I, M, R, G) = if fid V id < vn V then (if fid V other < vn V then (if id = other then Ex 0 (I, M, R, G) else some (.inl (some (aI (spv V (fid V id) (fid V other)))), (I, M, R, G))) else Ex 3 (I, M, R, G)) else Ex 3 (I, M, R, G) := by
  by_cases h1 : fid V id < vn V
  · by_cases h2 : fid V other < vn V
    · by_cases h3 : id = other
      · simp only [m125, s125_0, s125_1, s125_2, s125_5, s125_6, s125_7, s125_10, s125_11, s125_12, s125_13, s125_14, s125_17, s125_20, hR.o.1, placeOf_ok hR h, placeOfOther_ok hR h, if_pos h1, if_pos h2, if_pos h3, if_false, if_true, ck_v, ck_x, Option.toList, List.cons_append, List.nil_append, kil_nil, N_1, o10, o00, exN_0, exN_1, exN_2, exN_3, exN_4, exN_5, Ex]
      · simp only [m125, s125_0, s125_1, s125_2, s125_5, s125_6, s125_7, s125_10, s125_11, s125_12, s125_13, s125_14, s125_17, s125_20, hR.o.1, placeOf_ok hR h, placeOfOther_ok hR h, if_pos h1, if_pos h2, if_neg h3, if_false, if_true, ck_v, ck_x, Option.toList, List.cons_append, List.nil_append, kil_nil, N_1, o10, o00, exN_0, exN_1, exN_2, exN_3, exN_4, exN_5, Ex, spB_ok hR (show 0 < 8 by decide) (h.lt h1) (h.lt h2), h.sp h1 h2]
    · simp only [m125, s125_0, s125_1, s125_2, s125_5, s125_6, s125_7, s125_10, s125_11, s125_12, s125_13, s125_14, s125_17, s125_20, hR.o.1, placeOf_ok hR h, placeOfOther_ok hR h, if_pos h1, if_neg h2, if_false, if_true, ck_v, ck_x, Option.toList, List.cons_append, List.nil_append, kil_nil, N_1, o10, o00, exN_0, exN_1, exN_2, exN_3, exN_4, exN_5, Ex]
  · simp only [m125, s125_0, s125_1, s125_2, s125_5, s125_6, s125_7, s125_10, s125_11, s125_12, s125_13, s125_14, s125_17, s125_20, hR.o.1, placeOf_ok hR h, placeOfOther_ok hR h, if_neg h1, if_false, if_true, ck_v, ck_x, Option.toList, List.cons_append, List.nil_append, kil_nil, N_1, o10, o00, exN_0, exN_1, exN_2, exN_3, exN_4, exN_5, Ex]
theorem margin_ok {id other : Int32} (hR : RF R) (h : BV I 0 V) : evm (d + 5) 127 [aR (11, 0, 0), aI id, aI other] (I, M, R, G) = if fid V id < vn V then (if fid V other < vn V then (if id = other then Ex 0 (I, M, R, G) else some (.inl (some (aI (mgv V (fid V id) (fid V other)))), (I, M, R, G))) else Ex 3 (I, M, R, G)) else Ex 3 (I, M, R, G) := by
  by_cases h1 : fid V id < vn V
  · by_cases h2 : fid V other < vn V
    · by_cases h3 : id = other
      · simp only [m127, s127_0, s127_1, s127_2, s127_5, s127_6, s127_7, s127_10, s127_11, s127_12, s127_13, s127_14, s127_17, s127_20, hR.o.1, placeOf_ok hR h, placeOfOther_ok hR h, if_pos h1, if_pos h2, if_pos h3, if_false, if_true, ck_v, ck_x, Option.toList, List.cons_append, List.nil_append, kil_nil, N_1, o10, o00, exN_0, exN_1, exN_2, exN_3, exN_4, exN_5, Ex]
      · simp only [m127, s127_0, s127_1, s127_2, s127_5, s127_6, s127_7, s127_10, s127_11, s127_12, s127_13, s127_14, s127_17, s127_20, hR.o.1, placeOf_ok hR h, placeOfOther_ok hR h, if_pos h1, if_pos h2, if_neg h3, if_false, if_true, ck_v, ck_x, Option.toList, List.cons_append, List.nil_append, kil_nil, N_1, o10, o00, exN_0, exN_1, exN_2, exN_3, exN_4, exN_5, Ex, mgB_ok hR (show 0 < 8 by decide) (h.lt h1) (h.lt h2), h.mg h1 h2]
    · simp only [m127, s127_0, s127_1, s127_2, s127_5, s127_6, s127_7, s127_10, s127_11, s127_12, s127_13, s127_14, s127_17, s127_20, hR.o.1, placeOf_ok hR h, placeOfOther_ok hR h, if_pos h1, if_neg h2, if_false, if_true, ck_v, ck_x, Option.toList, List.cons_append, List.nil_append, kil_nil, N_1, o10, o00, exN_0, exN_1, exN_2, exN_3, exN_4, exN_5, Ex]
  · simp only [m127, s127_0, s127_1, s127_2, s127_5, s127_6, s127_7, s127_10, s127_11, s127_12, s127_13, s127_14, s127_17, s127_20, hR.o.1, placeOf_ok hR h, placeOfOther_ok hR h, if_neg h1, if_false, if_true, ck_v, ck_x, Option.toList, List.cons_append, List.nil_append, kil_nil, N_1, o10, o00, exN_0, exN_1, exN_2, exN_3, exN_4, exN_5, Ex]
theorem isPair_ok {id other : Int32} (hR : RF R) (hV : MV I V) : evm (d + 3) 275 [aR (12, 0, 0), aI id, aI other] (I, M, R, G) = some (.inl (some (aI (if prT V id other = 0 then 1 else 0))), (thr I (prT V id other), M, R, G)) := by
  have h7 := hV.2.2.1
  by_cases h1 : fid V id < vn V
  · by_cases h2 : fid V other < vn V
    · by_cases h3 : id = other
      · simp only [m275, s275_0, s275_1, s275_2, s275_3, s275_6, s275_9, s275_10, s275_11, s275_14, s275_17, s275_18, s275_21, s275_22, s275_23, s275_26, s275_27, s275_30, s275_31, s275_34, s275_35, s275_38, s275_41, s275_42, s275_45, s275_46, slotOf_f hR hV, plc_p h1, plc_p h2, N_neg (a := fid V id) (show fid V id < 2147483648 by omega), N_neg (a := fid V other) (show fid V other < 2147483648 by omega), if_pos h3, if_false, if_true, ck_v, ck_x, Option.toList, List.cons_append, List.nil_append, kil_nil, N_1, o10, o00, exN_0, exN_1, exN_2, exN_3, exN_4, exN_5, Ex, ite_le, prT, if_pos h1, if_pos h2, setI_at]
        simp
      · simp only [m275, s275_0, s275_1, s275_2, s275_3, s275_6, s275_9, s275_10, s275_11, s275_14, s275_17, s275_18, s275_21, s275_22, s275_23, s275_26, s275_27, s275_30, s275_31, s275_34, s275_35, s275_38, s275_41, s275_42, s275_45, s275_46, slotOf_f hR hV, plc_p h1, plc_p h2, N_neg (a := fid V id) (show fid V id < 2147483648 by omega), N_neg (a := fid V other) (show fid V other < 2147483648 by omega), if_neg h3, if_false, if_true, ck_v, ck_x, Option.toList, List.cons_append, List.nil_append, kil_nil, N_1, o10, o00, exN_0, exN_1, exN_2, exN_3, exN_4, exN_5, Ex, ite_le, prT, if_pos h1, if_pos h2, setI_at]
        simp
    · simp only [m275, s275_0, s275_1, s275_2, s275_3, s275_6, s275_9, s275_10, s275_11, s275_14, s275_17, s275_18, s275_21, s275_22, s275_23, s275_26, s275_27, s275_30, s275_31, s275_34, s275_35, s275_38, s275_41, s275_42, s275_45, s275_46, slotOf_f hR hV, plc_p h1, N_neg (a := fid V id) (show fid V id < 2147483648 by omega), plc_n h7, h2, not_false_eq_true, if_false, if_true, ck_v, ck_x, Option.toList, List.cons_append, List.nil_append, kil_nil, N_1, o10, o00, exN_0, exN_1, exN_2, exN_3, exN_4, exN_5, Ex, ite_le, prT, if_pos h1, if_neg h2, setI_at]
      simp
  · simp only [m275, s275_0, s275_1, s275_2, s275_3, s275_6, s275_9, s275_10, s275_11, s275_14, s275_17, s275_18, s275_21, s275_22, s275_23, s275_26, s275_27, s275_30, s275_31, s275_34, s275_35, s275_38, s275_41, s275_42, s275_45, s275_46, slotOf_f hR hV, plc_n h7, h1, not_false_eq_true, if_false, if_true, ck_v, ck_x, Option.toList, List.cons_append, List.nil_append, kil_nil, N_1, o10, o00, exN_0, exN_1, exN_2, exN_3, exN_4, exN_5, Ex, ite_le, prT, if_neg h1, setI_at]
    simp
theorem squaredDistanceM_ok {id other : Int32} (hR : RF R) (hV : MV I V) : evm (d + 7) 274 [aR (12, 0, 0), aI id, aI other] (I, M, R, G) = some (.inl (some (aI (if prT V id other = 0 then sq2 V (fid V id) (fid V other) else 0))), (thr I (prT V id other), M, R, G)) := by
  have hz := hV.thr (x := 0)
  have h7 := hV.2.2.1
  by_cases hq : prT V id other = 0
  · obtain ⟨h1, h2, h3⟩ := prT_0 hq
    simp only [m274, s274_0, s274_1, s274_2, s274_3, s274_6, s274_9, s274_10, s274_11, s274_12, s274_13, s274_16, s274_17, s274_20, s274_21, s274_22, s274_23, s274_26, s274_27, s274_30, s274_31, s274_32, s274_35, s274_38, s274_41, s274_42, isPair_ok hR hV, hq, if_false, if_true, ck_v, ck_x, Option.toList, List.cons_append, List.nil_append, kil_nil, N_1, o10, o00, exN_0, exN_1, exN_2, exN_3, exN_4, exN_5, Ex, slotOf_f hR hz, plc_p h1, plc_p h2, fV1 hR hz h1, fV2 hR hz h1, distanceTo_ok hR hz h2, sq2m]
  · simp only [m274, s274_0, s274_1, s274_2, s274_3, s274_6, s274_9, s274_10, s274_11, s274_12, s274_13, s274_16, s274_17, s274_20, s274_21, s274_22, s274_23, s274_26, s274_27, s274_30, s274_31, s274_32, s274_35, s274_38, s274_41, s274_42, isPair_ok hR hV, hq, if_false, if_true, ck_v, ck_x, Option.toList, List.cons_append, List.nil_append, kil_nil, N_1, o10, o00, exN_0, exN_1, exN_2, exN_3, exN_4, exN_5, Ex]
theorem baseSeparationM_ok {id other : Int32} (hR : RF R) (hV : MV I V) : evm (d + 7) 276 [aR (12, 0, 0), aI id, aI other] (I, M, R, G) = some (.inl (some (aI (if prT V id other = 0 then bs2 V (fid V id) (fid V other) else 0))), (thr I (prT V id other), M, R, G)) := by
  have hz := hV.thr (x := 0)
  have h7 := hV.2.2.1
  by_cases hq : prT V id other = 0
  · obtain ⟨h1, h2, h3⟩ := prT_0 hq
    simp only [m276, s276_0, s276_1, s276_2, s276_3, s276_6, s276_9, s276_10, s276_11, s276_12, s276_15, s276_16, s276_17, s276_20, s276_23, s276_26, s276_27, isPair_ok hR hV, hq, if_false, if_true, ck_v, ck_x, Option.toList, List.cons_append, List.nil_append, kil_nil, N_1, o10, o00, exN_0, exN_1, exN_2, exN_3, exN_4, exN_5, Ex, slotOf_f hR hz, plc_p h1, plc_p h2, baseOf_ok hR hz h1 h2, bs2_c (fid V other)]
  · simp only [m276, s276_0, s276_1, s276_2, s276_3, s276_6, s276_9, s276_10, s276_11, s276_12, s276_15, s276_16, s276_17, s276_20, s276_23, s276_26, s276_27, isPair_ok hR hV, hq, if_false, if_true, ck_v, ck_x, Option.toList, List.cons_append, List.nil_append, kil_nil, N_1, o10, o00, exN_0, exN_1, exN_2, exN_3, exN_4, exN_5, Ex]
theorem complaintCountM_ok {id other : Int32} (hR : RF R) (hV : MV I V) : evm (d + 7) 277 [aR (12, 0, 0), aI id, aI other] (I, M, R, G) = some (.inl (some (aI (if prT V id other = 0 then vc V (fid V id) (fid V other) else 0))), (thr I (prT V id other), M, R, G)) := by
  have hz := hV.thr (x := 0)
  have h7 := hV.2.2.1
  by_cases hq : prT V id other = 0
  · obtain ⟨h1, h2, h3⟩ := prT_0 hq
    simp only [m277, s277_0, s277_1, s277_2, s277_3, s277_6, s277_9, s277_10, s277_11, s277_12, s277_15, s277_16, s277_17, s277_20, s277_23, s277_26, s277_27, isPair_ok hR hV, hq, if_false, if_true, ck_v, ck_x, Option.toList, List.cons_append, List.nil_append, kil_nil, N_1, o10, o00, exN_0, exN_1, exN_2, exN_3, exN_4, exN_5, Ex, slotOf_f hR hz, plc_p h1, plc_p h2, complaints_ok hR hz h1 h2]
  · simp only [m277, s277_0, s277_1, s277_2, s277_3, s277_6, s277_9, s277_10, s277_11, s277_12, s277_15, s277_16, s277_17, s277_20, s277_23, s277_26, s277_27, isPair_ok hR hV, hq, if_false, if_true, ck_v, ck_x, Option.toList, List.cons_append, List.nil_append, kil_nil, N_1, o10, o00, exN_0, exN_1, exN_2, exN_3, exN_4, exN_5, Ex]
theorem separationM_ok {id other : Int32} (hR : RF R) (hV : MV I V) : evm (d + 7) 278 [aR (12, 0, 0), aI id, aI other] (I, M, R, G) = some (.inl (some (aI (if prT V id other = 0 then spv V (fid V id) (fid V other) else 0))), (thr I (prT V id other), M, R, G)) := by
  have hz := hV.thr (x := 0)
  have h7 := hV.2.2.1
  by_cases hq : prT V id other = 0
  · obtain ⟨h1, h2, h3⟩ := prT_0 hq
    simp only [m278, s278_0, s278_1, s278_2, s278_3, s278_6, s278_9, s278_10, s278_11, s278_12, s278_15, s278_16, s278_17, s278_20, s278_23, s278_26, s278_27, isPair_ok hR hV, hq, if_false, if_true, ck_v, ck_x, Option.toList, List.cons_append, List.nil_append, kil_nil, N_1, o10, o00, exN_0, exN_1, exN_2, exN_3, exN_4, exN_5, Ex, slotOf_f hR hz, plc_p h1, plc_p h2, separationOf_ok hR hz h1 h2, spm, bs2_c (fid V other), spv]
  · simp only [m278, s278_0, s278_1, s278_2, s278_3, s278_6, s278_9, s278_10, s278_11, s278_12, s278_15, s278_16, s278_17, s278_20, s278_23, s278_26, s278_27, isPair_ok hR hV, hq, if_false, if_true, ck_v, ck_x, Option.toList, List.cons_append, List.nil_append, kil_nil, N_1, o10, o00, exN_0, exN_1, exN_2, exN_3, exN_4, exN_5, Ex]
theorem marginM_ok {id other : Int32} (hR : RF R) (hV : MV I V) : evm (d + 7) 279 [aR (12, 0, 0), aI id, aI other] (I, M, R, G) = some (.inl (some (aI (if prT V id other = 0 then mgv V (fid V id) (fid V other) else 0))), (thr I (prT V id other), M, R, G)) := by
  have hz := hV.thr (x := 0)
  have h7 := hV.2.2.1
  by_cases hq : prT V id other = 0
  · obtain ⟨h1, h2, h3⟩ := prT_0 hq
    simp only [m279, s279_0, s279_1, s279_2, s279_3, s279_6, s279_9, s279_10, s279_11, s279_12, s279_15, s279_16, s279_19, s279_20, s279_21, s279_22, s279_25, s279_26, s279_29, s279_30, s279_33, s279_34, s279_35, s279_36, s279_39, s279_40, s279_41, s279_44, s279_47, s279_48, s279_51, s279_52, isPair_ok hR hV, hq, if_false, if_true, ck_v, ck_x, Option.toList, List.cons_append, List.nil_append, kil_nil, N_1, o10, o00, exN_0, exN_1, exN_2, exN_3, exN_4, exN_5, Ex, slotOf_f hR hz, plc_p h1, plc_p h2, fV3 hR hz h1, fV3 hR hz h2, size_ok, separationOf_ok hR hz h1 h2, spm, bs2_c (fid V other), spv, mgv]
  · simp only [m279, s279_0, s279_1, s279_2, s279_3, s279_6, s279_9, s279_10, s279_11, s279_12, s279_15, s279_16, s279_19, s279_20, s279_21, s279_22, s279_25, s279_26, s279_29, s279_30, s279_33, s279_34, s279_35, s279_36, s279_39, s279_40, s279_41, s279_44, s279_47, s279_48, s279_51, s279_52, isPair_ok hR hV, hq, if_false, if_true, ck_v, ck_x, Option.toList, List.cons_append, List.nil_append, kil_nil, N_1, o10, o00, exN_0, exN_1, exN_2, exN_3, exN_4, exN_5, Ex]
end PAIRS
