/-! THE METHODS' MEANING: the class's checks and what it is asked -/
theorem ck_ite {p : Prop} [Decidable p] {a b : Option Out} {k : Option AV → SS → Option Out} : ck (if p then a else b) k = if p then ck a k else ck b k := by
  by_cases h : p
  · rw [if_pos h, if_pos h]
  · rw [if_neg h, if_neg h]
abbrev rg (v lo hi : Int32) : Prop := ¬ v < lo ∧ ¬ hi < v
def fid (V : Vw) (id : Int32) : Nat := fs (fun k => decide (vf V k 0 = id)) (vn V)
theorem plc_m {k n : Nat} (hn : n ≤ 7) : (plc k n = -1) = ¬ k < n := by
  unfold plc
  by_cases h : k < n
  · rw [if_pos h]
    have : ¬ N k = -1 := fun e => by
      have h2 := N_neg (a := k) (by omega)
      rw [e] at h2
      exact absurd h2 (by decide)
    simp [h, this]
  · rw [if_neg h]
    simp [h]
theorem plc_n {k n : Nat} (hn : n ≤ 7) : (plc k n < 0) = ¬ k < n := by
  unfold plc
  by_cases h : k < n
  · rw [if_pos h, N_neg (by omega)]
    simp [h]
  · rw [if_neg h]
    simp [h]
theorem plc_p {k n : Nat} (h : k < n) : plc k n = N k := if_pos h
section ASKS
variable {d j : Nat} {I : OId → Nat → Int32} {M R : OId → Nat → AV} {G : SG} {V : Vw}
theorem RF.o (h : RF R) : R (11, 0, 0) 0 = aR (4, 0, 0) ∧ R (11, 0, 0) 1 = aR (5, 0, 0) ∧ R (11, 0, 0) 2 = aR (4, 7, 0) ∧ R (11, 0, 0) 4 = aR (8, 0, 0) ∧ R (11, 0, 0) 5 = aR (9, 0, 0) ∧ R (11, 0, 0) 6 = aR (1, 0, 0) := h.1
theorem checkRange_ok {v lo hi : Int32} {S : SS} : evm (d + 1) 58 [aI v, aI lo, aI hi] S = if rg v lo hi then some (.inl none, S) else Ex 0 S := by
  simp only [m58, s58_0, s58_1, s58_2, s58_5, s58_6, s58_7, s58_10, s58_13, s58_21, ite_le, rg]
  by_cases h1 : v < lo <;> by_cases h2 : hi < v <;> simp [h1, h2, exN_0, exN_1, exN_2, exN_3, exN_4, exN_5, Ex]
theorem checkPoint_ok {x y : Int32} {S : SS} : evm (d + 2) 63 [aI x, aI y] S = if rg x 0 99 ∧ rg y 0 99 then some (.inl none, S) else Ex 0 S := by
  simp only [m63, s63_0, s63_1, s63_2, s63_4, s63_7, s63_8, s63_9, s63_11, s63_14, checkRange_ok, ck_ite, ck_v, ck_x, Option.toList, List.nil_append]
  by_cases h1 : rg x 0 99
  · by_cases h2 : rg y 0 99
    · rw [if_pos h1, if_pos h2, if_pos ⟨h1, h2⟩]
    · rw [if_pos h1, if_neg h2, if_neg (fun q => h2 q.2)]
  · rw [if_neg h1, if_neg (fun q => h1 q.1)]
theorem checkChannel_ok {c : Int32} {S : SS} : evm (d + 2) 130 [aI c] S = if rg c 0 7 then some (.inl none, S) else Ex 0 S := by
  simp only [m130, s130_0, s130_1, s130_2, s130_4, s130_7, checkRange_ok, ck_ite, ck_v, ck_x, Option.toList, List.nil_append]
theorem checkLicensed_ok {k : Nat} : evm (d + 1) 93 [aR (10, j, k)] (I, M, R, G) = if bb (I (10, j, k) 5) = 0 then some (.inl none, (I, M, R, G)) else Ex 1 (I, M, R, G) := by
  simp only [m93, s93_0, s93_1, s93_4, s93_7, s93_10, s93_18, exN_0, exN_1, exN_2, exN_3, exN_4, exN_5, Ex]
theorem checkRoom_ok (hR : RF R) (h : BV I 0 V) : evm (d + 1) 64 [aR (11, 0, 0)] (I, M, R, G) = if vn V < 7 then some (.inl none, (I, M, R, G)) else Ex 1 (I, M, R, G) := by
  have h7 := h.2.2.1
  have e : (N (vn V) < 7) = (vn V < 7) := N_lt (b := 7) (by omega) (by omega)
  simp only [m64, s64_0, s64_1, s64_4, s64_7, s64_9, s64_12, s64_15, s64_23, hR.o.1, h.2.1, ite_le, e, exN_0, exN_1, exN_2, exN_3, exN_4, exN_5, Ex]
theorem checkPosition_ok {p : Int32} (hR : RF R) (h : BV I 0 V) : evm (d + 1) 101 [aR (11, 0, 0), aI p] (I, M, R, G) = if ¬ p < 0 ∧ p < N (vn V) then some (.inl none, (I, M, R, G)) else Ex 4 (I, M, R, G) := by
  simp only [m101, s101_0, s101_1, s101_4, s101_5, s101_6, s101_9, s101_12, s101_15, s101_18, s101_26, hR.o.1, h.2.1, ite_le]
  by_cases h1 : p < 0 <;> by_cases h2 : p < N (vn V) <;> simp [h1, h2, exN_0, exN_1, exN_2, exN_3, exN_4, exN_5, Ex]
theorem placeOf_ok {id : Int32} (hR : RF R) (h : BV I 0 V) : evm (d + 3) 90 [aR (11, 0, 0), aI id] (I, M, R, G) = if fid V id < vn V then some (.inl (some (aI (N (fid V id)))), (I, M, R, G)) else Ex 3 (I, M, R, G) := by
  simp only [m90, s90_0, s90_1, s90_4, s90_5, s90_8, s90_9, s90_10, s90_11, s90_14, s90_17, s90_25, s90_26, hR.o.1, findV hR (show 0 < 8 by decide) h, if_false, if_true, ck_v, ck_x, Option.toList, List.cons_append, List.nil_append, kil_nil, N_1, o10, o00, exN_0, exN_1, exN_2, exN_3, exN_4, exN_5, Ex, plc_m h.2.2.1]
  by_cases h1 : fid V id < vn V
  · have h2 := h1
    unfold fid at h2
    simp [h1, h2, plc, fid]
  · have h2 := h1
    unfold fid at h2
    simp [h1, h2, exN_0, exN_1, exN_2, exN_3, exN_4, exN_5, Ex]
theorem placeOfOther_ok {id other : Int32} (hR : RF R) (h : BV I 0 V) : evm (d + 4) 118 [aR (11, 0, 0), aI id, aI other] (I, M, R, G) = if fid V other < vn V then (if id = other then Ex 0 (I, M, R, G) else some (.inl (some (aI (N (fid V other)))), (I, M, R, G))) else Ex 3 (I, M, R, G) := by
  simp only [m118, s118_0, s118_1, s118_2, s118_5, s118_6, s118_7, s118_8, s118_11, s118_14, s118_22, s118_23, placeOf_ok hR h, ck_ite, ck_v, ck_x, Option.toList, List.nil_append, List.cons_append, kil_nil, exN_0, exN_1, exN_2, exN_3, exN_4, exN_5, Ex]
theorem nearRadius_ok (hR : RF R) (h : BV I 0 V) : evm (d + 1) 10 [aR (11, 0, 0)] (I, M, R, G) = some (.inl (some (aI V.1.1)), (I, M, R, G)) := by
  simp only [m10, s10_0, s10_1, s10_4, s10_7, hR.o.1, h.1.1]
theorem middleRadius_ok (hR : RF R) (h : BV I 0 V) : evm (d + 1) 11 [aR (11, 0, 0)] (I, M, R, G) = some (.inl (some (aI V.1.2.1)), (I, M, R, G)) := by
  simp only [m11, s11_0, s11_1, s11_4, s11_7, hR.o.1, h.1.2.1]
theorem farRadius_ok (hR : RF R) (h : BV I 0 V) : evm (d + 1) 12 [aR (11, 0, 0)] (I, M, R, G) = some (.inl (some (aI V.1.2.2)), (I, M, R, G)) := by
  simp only [m12, s12_0, s12_1, s12_4, s12_7, hR.o.1, h.1.2.2]
theorem today_ok (hR : RF R) : evm (d + 1) 13 [aR (11, 0, 0)] (I, M, R, G) = some (.inl (some (aI (I (4, 0, 0) 3))), (I, M, R, G)) := by
  simp only [m13, s13_0, s13_1, s13_4, s13_7, hR.o.1]
theorem stationCount_ok (hR : RF R) (h : BV I 0 V) : evm (d + 1) 14 [aR (11, 0, 0)] (I, M, R, G) = some (.inl (some (aI (N (vn V)))), (I, M, R, G)) := by
  simp only [m14, s14_0, s14_1, s14_4, s14_7, hR.o.1, h.2.1]
theorem licensedCount_ok (hR : RF R) (h : BV I 0 V) : evm (d + 3) 15 [aR (11, 0, 0)] (I, M, R, G) = some (.inl (some (aI (sm (licv V) (vn V)))), (I, M, R, G)) := by
  simp only [m15, s15_0, s15_1, s15_4, s15_7, hR.o.1, licensedV hR (show 0 < 8 by decide) h, if_false, if_true, ck_v, ck_x, Option.toList, List.cons_append, List.nil_append, kil_nil, N_1, o10, o00, exN_0, exN_1, exN_2, exN_3, exN_4, exN_5, Ex]
theorem expiredTotal_ok (hR : RF R) : evm (d + 1) 20 [aR (11, 0, 0)] (I, M, R, G) = some (.inl (some (aI (I (4, 0, 0) 5))), (I, M, R, G)) := by
  simp only [m20, s20_0, s20_1, s20_4, s20_7, hR.o.1]
theorem endedTrials_ok (hR : RF R) : evm (d + 1) 21 [aR (11, 0, 0)] (I, M, R, G) = some (.inl (some (aI (I (4, 0, 0) 6))), (I, M, R, G)) := by
  simp only [m21, s21_0, s21_1, s21_4, s21_7, hR.o.1]
theorem exists_ok {id : Int32} (hR : RF R) (h : BV I 0 V) : evm (d + 3) 18 [aR (11, 0, 0), aI id] (I, M, R, G) = some (.inl (some (aI (if fid V id < vn V then 1 else 0))), (I, M, R, G)) := by
  simp only [m18, s18_0, s18_1, s18_4, s18_5, s18_8, s18_9, s18_12, s18_13, s18_16, s18_17, hR.o.1, findV hR (show 0 < 8 by decide) h, if_false, if_true, ck_v, ck_x, Option.toList, List.cons_append, List.nil_append, kil_nil, N_1, o10, o00, exN_0, exN_1, exN_2, exN_3, exN_4, exN_5, Ex, plc_m h.2.2.1]
  by_cases h1 : fid V id < vn V
  · have h2 := h1
    unfold fid at h2
    simp [h1, h2]
  · have h2 := h1
    unfold fid at h2
    simp [h1, h2]
theorem xOf_ok {id : Int32} (hR : RF R) (h : BV I 0 V) : evm (d + 4) 107 [aR (11, 0, 0), aI id] (I, M, R, G) = if fid V id < vn V then some (.inl (some (aI (vf V (fid V id) 1))), (I, M, R, G)) else Ex 3 (I, M, R, G) := by
  simp only [m107, s107_0, s107_1, s107_4, s107_5, s107_6, s107_9, s107_12, s107_15, hR.o.1, placeOf_ok hR h, ck_ite, ck_v, ck_x, Option.toList, List.nil_append, List.cons_append]
  by_cases h1 : fid V id < vn V
  · simp only [h1, if_true, at_N hR (show 0 < 8 by decide) (h.lt h1), if_false, if_true, ck_v, ck_x, Option.toList, List.cons_append, List.nil_append, kil_nil, N_1, o10, o00, exN_0, exN_1, exN_2, exN_3, exN_4, exN_5, Ex, m107, s107_0, s107_1, s107_4, s107_5, s107_6, s107_9, s107_12, s107_15, h.fl h1 (show 1 < 5 by decide)]
  · simp only [h1, if_false]
theorem yOf_ok {id : Int32} (hR : RF R) (h : BV I 0 V) : evm (d + 4) 109 [aR (11, 0, 0), aI id] (I, M, R, G) = if fid V id < vn V then some (.inl (some (aI (vf V (fid V id) 2))), (I, M, R, G)) else Ex 3 (I, M, R, G) := by
  simp only [m109, s109_0, s109_1, s109_4, s109_5, s109_6, s109_9, s109_12, s109_15, hR.o.1, placeOf_ok hR h, ck_ite, ck_v, ck_x, Option.toList, List.nil_append, List.cons_append]
  by_cases h1 : fid V id < vn V
  · simp only [h1, if_true, at_N hR (show 0 < 8 by decide) (h.lt h1), if_false, if_true, ck_v, ck_x, Option.toList, List.cons_append, List.nil_append, kil_nil, N_1, o10, o00, exN_0, exN_1, exN_2, exN_3, exN_4, exN_5, Ex, m109, s109_0, s109_1, s109_4, s109_5, s109_6, s109_9, s109_12, s109_15, h.fl h1 (show 2 < 5 by decide)]
  · simp only [h1, if_false]
theorem channelOf_ok {id : Int32} (hR : RF R) (h : BV I 0 V) : evm (d + 4) 111 [aR (11, 0, 0), aI id] (I, M, R, G) = if fid V id < vn V then some (.inl (some (aI (vf V (fid V id) 3))), (I, M, R, G)) else Ex 3 (I, M, R, G) := by
  simp only [m111, s111_0, s111_1, s111_4, s111_5, s111_6, s111_9, s111_12, s111_15, hR.o.1, placeOf_ok hR h, ck_ite, ck_v, ck_x, Option.toList, List.nil_append, List.cons_append]
  by_cases h1 : fid V id < vn V
  · simp only [h1, if_true, at_N hR (show 0 < 8 by decide) (h.lt h1), if_false, if_true, ck_v, ck_x, Option.toList, List.cons_append, List.nil_append, kil_nil, N_1, o10, o00, exN_0, exN_1, exN_2, exN_3, exN_4, exN_5, Ex, m111, s111_0, s111_1, s111_4, s111_5, s111_6, s111_9, s111_12, s111_15, h.fl h1 (show 3 < 5 by decide)]
  · simp only [h1, if_false]
theorem expiryOf_ok {id : Int32} (hR : RF R) (h : BV I 0 V) : evm (d + 4) 113 [aR (11, 0, 0), aI id] (I, M, R, G) = if fid V id < vn V then some (.inl (some (aI (vf V (fid V id) 4))), (I, M, R, G)) else Ex 3 (I, M, R, G) := by
  simp only [m113, s113_0, s113_1, s113_4, s113_5, s113_6, s113_9, s113_12, s113_15, hR.o.1, placeOf_ok hR h, ck_ite, ck_v, ck_x, Option.toList, List.nil_append, List.cons_append]
  by_cases h1 : fid V id < vn V
  · simp only [h1, if_true, at_N hR (show 0 < 8 by decide) (h.lt h1), if_false, if_true, ck_v, ck_x, Option.toList, List.cons_append, List.nil_append, kil_nil, N_1, o10, o00, exN_0, exN_1, exN_2, exN_3, exN_4, exN_5, Ex, m113, s113_0, s113_1, s113_4, s113_5, s113_6, s113_9, s113_12, s113_15, h.fl h1 (show 4 < 5 by decide)]
  · simp only [h1, if_false]
theorem isOnTrial_ok {id : Int32} (hR : RF R) (h : BV I 0 V) : evm (d + 4) 115 [aR (11, 0, 0), aI id] (I, M, R, G) = if fid V id < vn V then some (.inl (some (aI (if vl V (fid V id) = true then 0 else 1))), (I, M, R, G)) else Ex 3 (I, M, R, G) := by
  simp only [m115, s115_0, s115_1, s115_4, s115_5, s115_6, s115_9, s115_12, s115_15, hR.o.1, placeOf_ok hR h, ck_ite, ck_v, ck_x, Option.toList, List.nil_append, List.cons_append]
  by_cases h1 : fid V id < vn V
  · simp only [h1, if_true, at_N hR (show 0 < 8 by decide) (h.lt h1), if_false, if_true, ck_v, ck_x, Option.toList, List.cons_append, List.nil_append, kil_nil, N_1, o10, o00, exN_0, exN_1, exN_2, exN_3, exN_4, exN_5, Ex, m115, s115_0, s115_1, s115_4, s115_5, s115_6, s115_9, s115_12, s115_15, h.2.2.2.2.1 _ h1]
    cases vl V (fid V id) <;> simp
  · simp only [h1, if_false]
end ASKS
