/-! THE METHODS' MEANING: what the model is asked -/
abbrev thr (I : OId → Nat → Int32) (x : Int32) : OId → Nat → Int32 := setI I (12, 0, 0) 7 x
theorem thr_ne {I : OId → Nat → Int32} {x : Int32} {o : OId} (h : o ≠ (12, 0, 0)) : thr I x o = I o := setI_ne h
theorem thr_at {I : OId → Nat → Int32} {x : Int32} : thr I x (12, 0, 0) 7 = x := by
  show setI I (12, 0, 0) 7 x (12, 0, 0) 7 = x
  rw [setI_at, if_pos rfl]
theorem thr_o {I : OId → Nat → Int32} {x : Int32} {k : Nat} (h : k ≠ 7) : thr I x (12, 0, 0) k = I (12, 0, 0) k := by
  show setI I (12, 0, 0) 7 x (12, 0, 0) k = _
  rw [setI_at, if_neg h]
theorem thr_thr {I : OId → Nat → Int32} {x y : Int32} : thr (thr I x) y = thr I y := by
  funext o k
  show setI (setI I (12, 0, 0) 7 x) (12, 0, 0) 7 y o k = setI I (12, 0, 0) 7 y o k
  unfold setI
  by_cases h : o = (12, 0, 0) ∧ k = 7
  · rw [if_pos h, if_pos h]
  · rw [if_neg h, if_neg h, if_neg h]
section MASKS
variable {d : Nat} {I : OId → Nat → Int32} {M R : OId → Nat → AV} {G : SG} {V : Vw} {x : Int32}
theorem MV.fr {I' : OId → Nat → Int32} (hV : MV I V) (h : I' (35, 0, 0) = I (35, 0, 0)) : MV I' V := by
  unfold MV
  rw [h]
  exact hV
theorem MV.thr (hV : MV I V) : MV (thr I x) V := hV.fr (thr_ne (by decide))
theorem slotOf_f {id : Int32} (hR : RF R) (hV : MV I V) : evm (d + 2) 253 [aR (12, 0, 0), aI id] (I, M, R, G) = some (.inl (some (aI (plc (fid V id) (vn V)))), (I, M, R, G)) := slotOf_ok hR hV
theorem checked_1 : evm (d + 1) 256 [aR (12, 0, 0), aI 1] (I, M, R, G) = some (.inl (some (aI 0)), (thr I 0, M, R, G)) := by
  simp only [m256, s256_0, s256_1, s256_2, s256_5, s256_6, s256_9, s256_10, s256_13, s256_14, s256_17, if_false, if_true, ck_v, ck_x, Option.toList, List.cons_append, List.nil_append, kil_nil, N_1, o10, o00, exN_0, exN_1, exN_2, exN_3, exN_4, exN_5, Ex, setI_at]
theorem checked_0 : evm (d + 1) 256 [aR (12, 0, 0), aI 0] (I, M, R, G) = some (.inl (some (aI 1)), (thr I 1, M, R, G)) := by
  simp only [m256, s256_0, s256_1, s256_2, s256_5, s256_6, s256_9, s256_10, s256_13, s256_14, s256_17, if_false, if_true, ck_v, ck_x, Option.toList, List.cons_append, List.nil_append, kil_nil, N_1, o10, o00, exN_0, exN_1, exN_2, exN_3, exN_4, exN_5, Ex, setI_at]
theorem plain_ok {v : Int32} : evm (d + 1) 220 [aR (12, 0, 0), aI v] (I, M, R, G) = some (.inl (some (aI v)), (thr I 0, M, R, G)) := by
  simp only [m220, s220_0, s220_1, s220_2, s220_5, s220_6]
theorem thrown_ok : evm (d + 1) 215 [aR (12, 0, 0)] (I, M, R, G) = some (.inl (some (aI (I (12, 0, 0) 7))), (I, M, R, G)) := by
  simp only [m215, s215_0, s215_1, s215_4]
theorem in_ok {v lo hi : Int32} {S : SS} : evm (d + 1) 225 [aI v, aI lo, aI hi] S = some (.inl (some (aI (if rg v lo hi then 1 else 0))), S) := by
  simp only [m225, s225_0, s225_1, s225_2, s225_5, s225_6, s225_7, s225_10, s225_11, s225_14, s225_15, ite_le, rg]
  by_cases h1 : v < lo <;> by_cases h2 : hi < v <;> simp [h1, h2]
theorem isPoint_ok {x y : Int32} {S : SS} : evm (d + 2) 224 [aI x, aI y] S = some (.inl (some (aI (if rg x 0 99 ∧ rg y 0 99 then 1 else 0))), S) := by
  by_cases h1 : rg x 0 99
  · by_cases h2 : rg y 0 99
    · rw [if_pos ⟨h1, h2⟩]
      simp only [m224, s224_0, s224_1, s224_2, s224_4, s224_7, s224_10, s224_11, s224_12, s224_14, s224_17, s224_20, s224_21, s224_24, s224_25, in_ok, if_false, if_true, ck_v, ck_x, Option.toList, List.cons_append, List.nil_append, kil_nil, N_1, o10, o00, exN_0, exN_1, exN_2, exN_3, exN_4, exN_5, Ex, if_pos h1, if_pos h2, or_true]
    · rw [if_neg (fun q => h2 q.2)]
      simp only [m224, s224_0, s224_1, s224_2, s224_4, s224_7, s224_10, s224_11, s224_12, s224_14, s224_17, s224_20, s224_21, s224_24, s224_25, in_ok, if_false, if_true, ck_v, ck_x, Option.toList, List.cons_append, List.nil_append, kil_nil, N_1, o10, o00, exN_0, exN_1, exN_2, exN_3, exN_4, exN_5, Ex, if_pos h1, if_neg h2, true_or]
  · rw [if_neg (fun q => h1 q.1)]
    simp only [m224, s224_0, s224_1, s224_2, s224_4, s224_7, s224_10, s224_11, s224_12, s224_14, s224_17, s224_20, s224_21, s224_24, s224_25, in_ok, if_false, if_true, ck_v, ck_x, Option.toList, List.cons_append, List.nil_append, kil_nil, N_1, o10, o00, exN_0, exN_1, exN_2, exN_3, exN_4, exN_5, Ex, if_neg h1, true_or]
theorem nearRadiusM_ok (hR : RF R) : evm (d + 2) 219 [aR (12, 0, 0)] (I, M, R, G) = some (.inl (some (aI (I (35, 0, 0) 0))), (thr I 0, M, R, G)) := by
  simp only [m219, s219_0, s219_1, s219_2, s219_5, s219_6, s219_7, s219_10, hR.m.1, kn0, cl0, ag35, plain_ok, if_false, if_true, ck_v, ck_x, Option.toList, List.cons_append, List.nil_append, kil_nil, N_1, o10, o00, exN_0, exN_1, exN_2, exN_3, exN_4, exN_5, Ex]
theorem middleRadiusM_ok (hR : RF R) : evm (d + 2) 221 [aR (12, 0, 0)] (I, M, R, G) = some (.inl (some (aI (I (35, 0, 0) 1))), (thr I 0, M, R, G)) := by
  simp only [m221, s221_0, s221_1, s221_2, s221_5, s221_6, s221_7, s221_10, hR.m.1, kn1, cl1, ag35, plain_ok, if_false, if_true, ck_v, ck_x, Option.toList, List.cons_append, List.nil_append, kil_nil, N_1, o10, o00, exN_0, exN_1, exN_2, exN_3, exN_4, exN_5, Ex]
theorem farRadiusM_ok (hR : RF R) : evm (d + 2) 222 [aR (12, 0, 0)] (I, M, R, G) = some (.inl (some (aI (I (35, 0, 0) 2))), (thr I 0, M, R, G)) := by
  simp only [m222, s222_0, s222_1, s222_2, s222_5, s222_6, s222_7, s222_10, hR.m.1, kn2, cl2, ag35, plain_ok, if_false, if_true, ck_v, ck_x, Option.toList, List.cons_append, List.nil_append, kil_nil, N_1, o10, o00, exN_0, exN_1, exN_2, exN_3, exN_4, exN_5, Ex]
theorem todayM_ok (hR : RF R) : evm (d + 2) 258 [aR (12, 0, 0)] (I, M, R, G) = some (.inl (some (aI (I (35, 0, 0) 3))), (thr I 0, M, R, G)) := by
  simp only [m258, s258_0, s258_1, s258_2, s258_5, s258_6, s258_7, s258_10, hR.m.1, kn3, cl3, ag35, plain_ok, if_false, if_true, ck_v, ck_x, Option.toList, List.cons_append, List.nil_append, kil_nil, N_1, o10, o00, exN_0, exN_1, exN_2, exN_3, exN_4, exN_5, Ex]
theorem stationCountM_ok (hR : RF R) : evm (d + 2) 259 [aR (12, 0, 0)] (I, M, R, G) = some (.inl (some (aI (I (35, 0, 0) 7))), (thr I 0, M, R, G)) := by
  simp only [m259, s259_0, s259_1, s259_2, s259_5, s259_7, s259_8, s259_11, hR.m.1, kn7, cl7, ag35, plain_ok, if_false, if_true, ck_v, ck_x, Option.toList, List.cons_append, List.nil_append, kil_nil, N_1, o10, o00, exN_0, exN_1, exN_2, exN_3, exN_4, exN_5, Ex]
theorem expiredTotalM_ok (hR : RF R) : evm (d + 2) 272 [aR (12, 0, 0)] (I, M, R, G) = some (.inl (some (aI (I (35, 0, 0) 5))), (thr I 0, M, R, G)) := by
  simp only [m272, s272_0, s272_1, s272_2, s272_5, s272_6, s272_7, s272_10, hR.m.1, kn5, cl5, ag35, plain_ok, if_false, if_true, ck_v, ck_x, Option.toList, List.cons_append, List.nil_append, kil_nil, N_1, o10, o00, exN_0, exN_1, exN_2, exN_3, exN_4, exN_5, Ex]
theorem endedTrialsM_ok (hR : RF R) : evm (d + 2) 273 [aR (12, 0, 0)] (I, M, R, G) = some (.inl (some (aI (I (35, 0, 0) 6))), (thr I 0, M, R, G)) := by
  simp only [m273, s273_0, s273_1, s273_2, s273_5, s273_7, s273_8, s273_11, hR.m.1, kn6, cl6, ag35, plain_ok, if_false, if_true, ck_v, ck_x, Option.toList, List.cons_append, List.nil_append, kil_nil, N_1, o10, o00, exN_0, exN_1, exN_2, exN_3, exN_4, exN_5, Ex]
theorem licensedCountM_ok (hR : RF R) (hV : MV I V) : evm (d + 3) 260 [aR (12, 0, 0)] (I, M, R, G) = some (.inl (some (aI (sm (licv V) (vn V)))), (thr I 0, M, R, G)) := by
  simp only [m260, s260_0, s260_1, s260_2, s260_5, s260_8, licensedM_ok hR hV, plain_ok, if_false, if_true, ck_v, ck_x, Option.toList, List.cons_append, List.nil_append, kil_nil, N_1, o10, o00, exN_0, exN_1, exN_2, exN_3, exN_4, exN_5, Ex]
theorem existsM_ok {id : Int32} (hR : RF R) (hV : MV I V) : evm (d + 3) 262 [aR (12, 0, 0), aI id] (I, M, R, G) = some (.inl (some (aI (if fid V id < vn V then 1 else 0))), (thr I 0, M, R, G)) := by
  simp only [m262, s262_0, s262_1, s262_2, s262_5, s262_6, s262_7, s262_10, s262_13, s262_14, s262_17, s262_18, slotOf_f hR (hV.thr (x := 0)), if_false, if_true, ck_v, ck_x, Option.toList, List.cons_append, List.nil_append, kil_nil, N_1, o10, o00, exN_0, exN_1, exN_2, exN_3, exN_4, exN_5, Ex, plc_n hV.2.2.1]
  by_cases h1 : fid V id < vn V <;> simp [h1]
theorem asked1_ok {id : Int32} (hR : RF R) (hV : MV I V) : evm (d + 3) 267 [aR (12, 0, 0), aI id, aI 1] (I, M, R, G) = some (.inl (some (aI (if fid V id < vn V then vf V (fid V id) 1 else 0))), (thr I (if fid V id < vn V then 0 else 1), M, R, G)) := by
  have h0 := hV.thr (x := 0)
  by_cases h1 : fid V id < vn V
  · simp only [m267, s267_0, s267_1, s267_2, s267_3, s267_6, s267_9, s267_10, s267_13, s267_14, s267_17, s267_20, s267_21, s267_24, s267_25, s267_26, s267_27, s267_30, s267_31, s267_34, slotOf_f hR hV, slotOf_f hR h0, if_false, if_true, ck_v, ck_x, Option.toList, List.cons_append, List.nil_append, kil_nil, N_1, o10, o00, exN_0, exN_1, exN_2, exN_3, exN_4, exN_5, Ex, plc_n hV.2.2.1, h1, not_true_eq_false, checked_1, ite_le, show ((0 : Int32) < 0) = False from by simp, plc_p h1, N_neg (a := fid V id) (show fid V id < 2147483648 by have := hV.2.2.1; omega), fV1 hR h0 h1]
  · simp only [m267, s267_0, s267_1, s267_2, s267_3, s267_6, s267_9, s267_10, s267_13, s267_14, s267_17, s267_20, s267_21, s267_24, s267_25, s267_26, s267_27, s267_30, s267_31, s267_34, slotOf_f hR hV, if_false, if_true, ck_v, ck_x, Option.toList, List.cons_append, List.nil_append, kil_nil, N_1, o10, o00, exN_0, exN_1, exN_2, exN_3, exN_4, exN_5, Ex, plc_n hV.2.2.1, h1, not_false_eq_true, checked_0, ite_le, show ((0 : Int32) < 1) = True from by decide]
theorem xOfM_ok {id : Int32} (hR : RF R) (hV : MV I V) : evm (d + 4) 266 [aR (12, 0, 0), aI id] (I, M, R, G) = some (.inl (some (aI (if fid V id < vn V then vf V (fid V id) 1 else 0))), (thr I (if fid V id < vn V then 0 else 1), M, R, G)) := by
  simp only [m266, s266_0, s266_1, s266_2, s266_3, s266_6, asked1_ok hR hV, if_false, if_true, ck_v, ck_x, Option.toList, List.cons_append, List.nil_append, kil_nil, N_1, o10, o00, exN_0, exN_1, exN_2, exN_3, exN_4, exN_5, Ex]
theorem asked2_ok {id : Int32} (hR : RF R) (hV : MV I V) : evm (d + 3) 267 [aR (12, 0, 0), aI id, aI 2] (I, M, R, G) = some (.inl (some (aI (if fid V id < vn V then vf V (fid V id) 2 else 0))), (thr I (if fid V id < vn V then 0 else 1), M, R, G)) := by
  have h0 := hV.thr (x := 0)
  by_cases h1 : fid V id < vn V
  · simp only [m267, s267_0, s267_1, s267_2, s267_3, s267_6, s267_9, s267_10, s267_13, s267_14, s267_17, s267_20, s267_21, s267_24, s267_25, s267_26, s267_27, s267_30, s267_31, s267_34, slotOf_f hR hV, slotOf_f hR h0, if_false, if_true, ck_v, ck_x, Option.toList, List.cons_append, List.nil_append, kil_nil, N_1, o10, o00, exN_0, exN_1, exN_2, exN_3, exN_4, exN_5, Ex, plc_n hV.2.2.1, h1, not_true_eq_false, checked_1, ite_le, show ((0 : Int32) < 0) = False from by simp, plc_p h1, N_neg (a := fid V id) (show fid V id < 2147483648 by have := hV.2.2.1; omega), fV2 hR h0 h1]
  · simp only [m267, s267_0, s267_1, s267_2, s267_3, s267_6, s267_9, s267_10, s267_13, s267_14, s267_17, s267_20, s267_21, s267_24, s267_25, s267_26, s267_27, s267_30, s267_31, s267_34, slotOf_f hR hV, if_false, if_true, ck_v, ck_x, Option.toList, List.cons_append, List.nil_append, kil_nil, N_1, o10, o00, exN_0, exN_1, exN_2, exN_3, exN_4, exN_5, Ex, plc_n hV.2.2.1, h1, not_false_eq_true, checked_0, ite_le, show ((0 : Int32) < 1) = True from by decide]
theorem yOfM_ok {id : Int32} (hR : RF R) (hV : MV I V) : evm (d + 4) 268 [aR (12, 0, 0), aI id] (I, M, R, G) = some (.inl (some (aI (if fid V id < vn V then vf V (fid V id) 2 else 0))), (thr I (if fid V id < vn V then 0 else 1), M, R, G)) := by
  simp only [m268, s268_0, s268_1, s268_2, s268_3, s268_6, asked2_ok hR hV, if_false, if_true, ck_v, ck_x, Option.toList, List.cons_append, List.nil_append, kil_nil, N_1, o10, o00, exN_0, exN_1, exN_2, exN_3, exN_4, exN_5, Ex]
theorem asked3_ok {id : Int32} (hR : RF R) (hV : MV I V) : evm (d + 3) 267 [aR (12, 0, 0), aI id, aI 3] (I, M, R, G) = some (.inl (some (aI (if fid V id < vn V then vf V (fid V id) 3 else 0))), (thr I (if fid V id < vn V then 0 else 1), M, R, G)) := by
  have h0 := hV.thr (x := 0)
  by_cases h1 : fid V id < vn V
  · simp only [m267, s267_0, s267_1, s267_2, s267_3, s267_6, s267_9, s267_10, s267_13, s267_14, s267_17, s267_20, s267_21, s267_24, s267_25, s267_26, s267_27, s267_30, s267_31, s267_34, slotOf_f hR hV, slotOf_f hR h0, if_false, if_true, ck_v, ck_x, Option.toList, List.cons_append, List.nil_append, kil_nil, N_1, o10, o00, exN_0, exN_1, exN_2, exN_3, exN_4, exN_5, Ex, plc_n hV.2.2.1, h1, not_true_eq_false, checked_1, ite_le, show ((0 : Int32) < 0) = False from by simp, plc_p h1, N_neg (a := fid V id) (show fid V id < 2147483648 by have := hV.2.2.1; omega), fV3 hR h0 h1]
  · simp only [m267, s267_0, s267_1, s267_2, s267_3, s267_6, s267_9, s267_10, s267_13, s267_14, s267_17, s267_20, s267_21, s267_24, s267_25, s267_26, s267_27, s267_30, s267_31, s267_34, slotOf_f hR hV, if_false, if_true, ck_v, ck_x, Option.toList, List.cons_append, List.nil_append, kil_nil, N_1, o10, o00, exN_0, exN_1, exN_2, exN_3, exN_4, exN_5, Ex, plc_n hV.2.2.1, h1, not_false_eq_true, checked_0, ite_le, show ((0 : Int32) < 1) = True from by decide]
theorem channelOfM_ok {id : Int32} (hR : RF R) (hV : MV I V) : evm (d + 4) 269 [aR (12, 0, 0), aI id] (I, M, R, G) = some (.inl (some (aI (if fid V id < vn V then vf V (fid V id) 3 else 0))), (thr I (if fid V id < vn V then 0 else 1), M, R, G)) := by
  simp only [m269, s269_0, s269_1, s269_2, s269_3, s269_6, asked3_ok hR hV, if_false, if_true, ck_v, ck_x, Option.toList, List.cons_append, List.nil_append, kil_nil, N_1, o10, o00, exN_0, exN_1, exN_2, exN_3, exN_4, exN_5, Ex]
theorem asked4_ok {id : Int32} (hR : RF R) (hV : MV I V) : evm (d + 3) 267 [aR (12, 0, 0), aI id, aI 4] (I, M, R, G) = some (.inl (some (aI (if fid V id < vn V then vf V (fid V id) 4 else 0))), (thr I (if fid V id < vn V then 0 else 1), M, R, G)) := by
  have h0 := hV.thr (x := 0)
  by_cases h1 : fid V id < vn V
  · simp only [m267, s267_0, s267_1, s267_2, s267_3, s267_6, s267_9, s267_10, s267_13, s267_14, s267_17, s267_20, s267_21, s267_24, s267_25, s267_26, s267_27, s267_30, s267_31, s267_34, slotOf_f hR hV, slotOf_f hR h0, if_false, if_true, ck_v, ck_x, Option.toList, List.cons_append, List.nil_append, kil_nil, N_1, o10, o00, exN_0, exN_1, exN_2, exN_3, exN_4, exN_5, Ex, plc_n hV.2.2.1, h1, not_true_eq_false, checked_1, ite_le, show ((0 : Int32) < 0) = False from by simp, plc_p h1, N_neg (a := fid V id) (show fid V id < 2147483648 by have := hV.2.2.1; omega), fV4 hR h0 h1]
  · simp only [m267, s267_0, s267_1, s267_2, s267_3, s267_6, s267_9, s267_10, s267_13, s267_14, s267_17, s267_20, s267_21, s267_24, s267_25, s267_26, s267_27, s267_30, s267_31, s267_34, slotOf_f hR hV, if_false, if_true, ck_v, ck_x, Option.toList, List.cons_append, List.nil_append, kil_nil, N_1, o10, o00, exN_0, exN_1, exN_2, exN_3, exN_4, exN_5, Ex, plc_n hV.2.2.1, h1, not_false_eq_true, checked_0, ite_le, show ((0 : Int32) < 1) = True from by decide]
theorem expiryOfM_ok {id : Int32} (hR : RF R) (hV : MV I V) : evm (d + 4) 270 [aR (12, 0, 0), aI id] (I, M, R, G) = some (.inl (some (aI (if fid V id < vn V then vf V (fid V id) 4 else 0))), (thr I (if fid V id < vn V then 0 else 1), M, R, G)) := by
  simp only [m270, s270_0, s270_1, s270_2, s270_3, s270_6, asked4_ok hR hV, if_false, if_true, ck_v, ck_x, Option.toList, List.cons_append, List.nil_append, kil_nil, N_1, o10, o00, exN_0, exN_1, exN_2, exN_3, exN_4, exN_5, Ex]
theorem isOnTrialM_ok {id : Int32} (hR : RF R) (hV : MV I V) : evm (d + 3) 271 [aR (12, 0, 0), aI id] (I, M, R, G) = some (.inl (some (aI (if fid V id < vn V then (if vl V (fid V id) = true then 0 else 1) else 0))), (thr I (if fid V id < vn V then 0 else 1), M, R, G)) := by
  have h0 := hV.thr (x := 0)
  by_cases h1 : fid V id < vn V
  · simp only [m271, s271_0, s271_1, s271_2, s271_3, s271_6, s271_9, s271_10, s271_13, s271_14, s271_17, s271_20, s271_21, s271_22, s271_23, s271_26, s271_29, s271_32, s271_33, s271_36, s271_37, slotOf_f hR hV, slotOf_f hR h0, if_false, if_true, ck_v, ck_x, Option.toList, List.cons_append, List.nil_append, kil_nil, N_1, o10, o00, exN_0, exN_1, exN_2, exN_3, exN_4, exN_5, Ex, plc_n hV.2.2.1, h1, not_true_eq_false, checked_1, plc_p h1, N_neg (a := fid V id) (show fid V id < 2147483648 by have := hV.2.2.1; omega), isLicensed_ok hR h0 h1, licv]
    cases vl V (fid V id) <;> simp
  · simp only [m271, s271_0, s271_1, s271_2, s271_3, s271_6, s271_9, s271_10, s271_13, s271_14, s271_17, s271_20, s271_21, s271_22, s271_23, s271_26, s271_29, s271_32, s271_33, s271_36, s271_37, slotOf_f hR hV, if_false, if_true, ck_v, ck_x, Option.toList, List.cons_append, List.nil_append, kil_nil, N_1, o10, o00, exN_0, exN_1, exN_2, exN_3, exN_4, exN_5, Ex, plc_n hV.2.2.1, h1, not_false_eq_true, checked_0, true_or]
theorem stationAtM_ok {p : Int32} (hR : RF R) (hV : MV I V) (hp : ¬ p < 0 ∧ p < N (vn V)) {k : Nat} (hk : p = N k) (hkn : k < vn V) : evm (d + 2) 263 [aR (12, 0, 0), aI p] (I, M, R, G) = some (.inl (some (aI (vf V k 0))), (thr I 0, M, R, G)) := by
  subst hk
  have hr : rg (N k) 0 (N (vn V) - 1) := by
    refine ⟨hp.1, ?_⟩
    have e : N (vn V) - 1 = N (vn V - 1) := by
      have h9 : N (vn V - 1) + 1 = N (vn V) := by
        rw [N_1]
        congr 1
        omega
      rw [← h9]
      grind
    have h7 := hV.2.2.1
    rw [e, N_lt (by omega) (by omega)]
    omega
  simp only [m263, s263_0, s263_1, s263_2, s263_3, s263_4, s263_7, s263_9, s263_10, s263_11, s263_12, s263_15, s263_18, s263_21, s263_22, s263_25, s263_26, s263_27, s263_28, s263_31, hR.m.1, kn7, cl7, ag35, hV.2.1, in_ok, if_pos hr, checked_1, if_false, if_true, ck_v, ck_x, Option.toList, List.cons_append, List.nil_append, kil_nil, N_1, o10, o00, exN_0, exN_1, exN_2, exN_3, exN_4, exN_5, Ex, ite_le, show ((0 : Int32) < 0) = False from by simp, fV0 hR (hV.thr (x := 0)) hkn]
end MASKS
