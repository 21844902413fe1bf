/-! THE METHODS' MEANING: the model's other questions -/
theorem fs_ex {p : Nat → Bool} {n : Nat} : fs p n < n ↔ ∃ k, k < n ∧ p k = true := by
  constructor
  · intro h
    exact ⟨_, h, fs_yes h⟩
  · rintro ⟨k, hk, hp⟩
    by_cases h : fs p n < n
    · exact h
    · have e : fs p n = n := Nat.le_antisymm (fs_le p n) (Nat.not_lt.mp h)
      rw [fs_no (p := p) (n := n) (k := k) (by omega)] at hp
      cases hp
def bad2 (V : Vw) (day : Int32) (k : Nat) : Bool := decide (¬ day < vf V k 4) || decide (fs (fun j => decide (j ≠ k) && cfv V k j) (vn V) < vn V)
theorem bad_bad {V : Vw} {day : Int32} (hW : WV V) : (fs (bad V day) (vn V) < vn V) = (fs (bad2 V day) (vn V) < vn V) := by
  apply propext
  rw [fs_ex, fs_ex]
  simp only [bad, bad2, Bool.or_eq_true, decide_eq_true_eq, fs_ex, Bool.and_eq_true]
  constructor
  · rintro ⟨k, hk, h | ⟨i, hi, hc⟩⟩
    · exact ⟨k, hk, Or.inl h⟩
    · exact ⟨k, hk, Or.inr ⟨i, by omega, by omega, by rw [cfv_c hW hk (by omega)]; exact hc⟩⟩
  · rintro ⟨k, hk, h | ⟨i, hi, hne, hc⟩⟩
    · exact ⟨k, hk, Or.inl h⟩
    · rcases Nat.lt_or_ge i k with hl | hl
      · exact ⟨k, hk, Or.inr ⟨i, hl, by rw [cfv_c hW hi hk]; exact hc⟩⟩
      · exact ⟨i, hi, Or.inr ⟨k, by omega, hc⟩⟩
section MASK2
variable {d : Nat} {I : OId → Nat → Int32} {M R : OId → Nat → AV} {G : SG} {V : Vw} {B : Bk}
theorem conflictsAtM_ok {x y c : Int32} (hR : RF R) (hV : MV I V) : evm (d + 5) 280 [aR (12, 0, 0), aI x, aI y, aI c] (I, M, R, G) = if (rg x 0 99 ∧ rg y 0 99) ∧ rg c 0 7 then some (.inl (some (aI (cnf V x y c))), (thr I 0, M, R, G)) else some (.inl (some (aI 0)), (thr I 1, M, R, G)) := by
  have hz := hV.thr (x := 0)
  by_cases h1 : rg x 0 99 ∧ rg y 0 99
  · by_cases h2 : rg c 0 7
    · rw [if_pos ⟨h1, h2⟩]
      simp only [m280, s280_0, s280_1, s280_2, s280_3, s280_6, s280_9, s280_10, s280_11, s280_13, s280_16, s280_19, s280_20, s280_23, s280_24, s280_27, s280_30, s280_31, s280_34, s280_35, s280_36, s280_37, s280_38, s280_41, isPoint_ok, in_ok, if_pos h1, if_pos h2, if_false, if_true, ck_v, ck_x, Option.toList, List.cons_append, List.nil_append, kil_nil, N_1, o10, o00, exN_0, exN_1, exN_2, exN_3, exN_4, exN_5, Ex, ite_le, checked_1, show ((0 : Int32) < 0) = False from by simp, conflictsFor_ok hR hz]
    · rw [if_neg (fun q => h2 q.2)]
      simp only [m280, s280_0, s280_1, s280_2, s280_3, s280_6, s280_9, s280_10, s280_11, s280_13, s280_16, s280_19, s280_20, s280_23, s280_24, s280_27, s280_30, s280_31, s280_34, s280_35, s280_36, s280_37, s280_38, s280_41, isPoint_ok, in_ok, if_pos h1, if_neg h2, if_false, if_true, ck_v, ck_x, Option.toList, List.cons_append, List.nil_append, kil_nil, N_1, o10, o00, exN_0, exN_1, exN_2, exN_3, exN_4, exN_5, Ex, ite_le, checked_0, show ((0 : Int32) < 1) = True from by decide]
  · rw [if_neg (fun q => h1 q.1)]
    simp only [m280, s280_0, s280_1, s280_2, s280_3, s280_6, s280_9, s280_10, s280_11, s280_13, s280_16, s280_19, s280_20, s280_23, s280_24, s280_27, s280_30, s280_31, s280_34, s280_35, s280_36, s280_37, s280_38, s280_41, isPoint_ok, if_neg h1, if_false, if_true, ck_v, ck_x, Option.toList, List.cons_append, List.nil_append, kil_nil, N_1, o10, o00, exN_0, exN_1, exN_2, exN_3, exN_4, exN_5, Ex, ite_le, checked_0, show ((0 : Int32) < 1) = True from by decide]
theorem disturbanceAtM_ok {x y c : Int32} (hR : RF R) (hV : MV I V) : evm (d + 5) 281 [aR (12, 0, 0), aI x, aI y, aI c] (I, M, R, G) = if (rg x 0 99 ∧ rg y 0 99) ∧ rg c 0 7 then some (.inl (some (aI (dst V x y c (-1)))), (thr I 0, M, R, G)) else some (.inl (some (aI 0)), (thr I 1, M, R, G)) := by
  have hz := hV.thr (x := 0)
  by_cases h1 : rg x 0 99 ∧ rg y 0 99
  · by_cases h2 : rg c 0 7
    · rw [if_pos ⟨h1, h2⟩]
      simp only [m281, s281_0, s281_1, s281_2, s281_3, s281_6, s281_9, s281_10, s281_11, s281_13, s281_16, s281_19, s281_20, s281_23, s281_24, s281_27, s281_30, s281_31, s281_34, s281_35, s281_36, s281_37, s281_38, s281_39, s281_42, isPoint_ok, in_ok, if_pos h1, if_pos h2, if_false, if_true, ck_v, ck_x, Option.toList, List.cons_append, List.nil_append, kil_nil, N_1, o10, o00, exN_0, exN_1, exN_2, exN_3, exN_4, exN_5, Ex, ite_le, checked_1, show ((0 : Int32) < 0) = False from by simp, disturbanceM_ok hR hz]
    · rw [if_neg (fun q => h2 q.2)]
      simp only [m281, s281_0, s281_1, s281_2, s281_3, s281_6, s281_9, s281_10, s281_11, s281_13, s281_16, s281_19, s281_20, s281_23, s281_24, s281_27, s281_30, s281_31, s281_34, s281_35, s281_36, s281_37, s281_38, s281_39, s281_42, isPoint_ok, in_ok, if_pos h1, if_neg h2, if_false, if_true, ck_v, ck_x, Option.toList, List.cons_append, List.nil_append, kil_nil, N_1, o10, o00, exN_0, exN_1, exN_2, exN_3, exN_4, exN_5, Ex, ite_le, checked_0, show ((0 : Int32) < 1) = True from by decide]
  · rw [if_neg (fun q => h1 q.1)]
    simp only [m281, s281_0, s281_1, s281_2, s281_3, s281_6, s281_9, s281_10, s281_11, s281_13, s281_16, s281_19, s281_20, s281_23, s281_24, s281_27, s281_30, s281_31, s281_34, s281_35, s281_36, s281_37, s281_38, s281_39, s281_42, isPoint_ok, if_neg h1, if_false, if_true, ck_v, ck_x, Option.toList, List.cons_append, List.nil_append, kil_nil, N_1, o10, o00, exN_0, exN_1, exN_2, exN_3, exN_4, exN_5, Ex, ite_le, checked_0, show ((0 : Int32) < 1) = True from by decide]
theorem isConsistentM_ok {day : Int32} (hR : RF R) (hV : MV I V) (hW : WV V) (hd : I (35, 0, 0) 3 = day) : evm (d + 7) 283 [aR (12, 0, 0)] (I, M, R, G) = some (.inl (some (aI (if fs (bad V day) (vn V) < vn V then 0 else 1))), (thr I 0, M, R, G)) := by
  simp only [bad_bad hW]
  rw [m283]
  simp only [s283_0, s283_1, s283_2, s283_5, s283_6, kil_nil]
  have h7 := hV.2.2.1
  have hz := hV.thr (x := 0)
  have hdz : thr I 0 (35, 0, 0) 3 = day := by rw [thr_ne (by decide)]; exact hd
  show ev (evm (d + 6)) 283 7 [some (aR (12, 0, 0)), some (aI 0), none] [] [] (thr I 0, M, R, G) = _
  generalize thr I 0 = I' at hz hdz
  have inner : ∀ k, k < vn V → ∀ j0, j0 ≤ vn V → (∀ i, i < j0 → (decide (i ≠ k) && cfv V k i) = false) → ev (evm (d + 6)) 283 37 [some (aR (12, 0, 0)), some (aI (N k)), some (aI (N j0))] [] [] (I', M, R, G) = if fs (fun j => decide (j ≠ k) && cfv V k j) (vn V) < vn V then some (.inl (some (aI 0)), (I', M, R, G)) else ev (evm (d + 6)) 283 7 [some (aR (12, 0, 0)), some (aI (N (k + 1))), some (aI (N (vn V)))] [] [] (I', M, R, G) := by
    intro k hk
    have hs : ∀ i, i < vn V → ev (evm (d + 6)) 283 37 [some (aR (12, 0, 0)), some (aI (N k)), some (aI (N i))] [] [] (I', M, R, G) = if (decide (i ≠ k) && cfv V k i) = true then some (.inl (some (aI 0)), (I', M, R, G)) else ev (evm (d + 6)) 283 37 [some (aR (12, 0, 0)), some (aI (N k)), some (aI (N (i + 1)))] [] [] (I', M, R, G) := by
      intro i hi
      have hik : (N i = N k) = (i = k) := N_inj (by omega) (by omega)
      rw [s283_37]
      simp only [m283, s283_0, s283_1, s283_2, s283_5, s283_6, s283_8, s283_9, s283_12, s283_14, s283_15, s283_18, s283_19, s283_20, s283_21, s283_24, s283_25, s283_28, s283_29, s283_30, s283_33, s283_34, s283_35, s283_36, s283_38, s283_39, s283_42, s283_44, s283_45, s283_48, s283_49, s283_50, s283_53, s283_54, s283_55, s283_56, s283_59, s283_62, s283_63, s283_64, s283_67, s283_70, s283_73, s283_76, s283_77, hR.m.1, kn7, cl7, ag35, hz.2.1, N_ge hi (show vn V < 2147483648 by omega), hik, conflict_ok hR hz hk hi, spm_v, if_false, if_true, ck_v, ck_x, Option.toList, List.cons_append, List.nil_append, kil_nil, N_1, o10, o00, exN_0, exN_1, exN_2, exN_3, exN_4, exN_5, Ex, true_or, or_true, cfv]
      by_cases h1 : i = k
      · simp [h1]
      · by_cases h2 : ab (vf V k 3 - vf V i 3) < spv V k i <;> simp [h1, h2]
    have he : ev (evm (d + 6)) 283 37 [some (aR (12, 0, 0)), some (aI (N k)), some (aI (N (vn V)))] [] [] (I', M, R, G) = ev (evm (d + 6)) 283 7 [some (aR (12, 0, 0)), some (aI (N (k + 1))), some (aI (N (vn V)))] [] [] (I', M, R, G) := by
      rw [s283_37]
      simp only [m283, s283_0, s283_1, s283_2, s283_5, s283_6, s283_8, s283_9, s283_12, s283_14, s283_15, s283_18, s283_19, s283_20, s283_21, s283_24, s283_25, s283_28, s283_29, s283_30, s283_33, s283_34, s283_35, s283_36, s283_38, s283_39, s283_42, s283_44, s283_45, s283_48, s283_49, s283_50, s283_53, s283_54, s283_55, s283_56, s283_59, s283_62, s283_63, s283_64, s283_67, s283_70, s283_73, s283_76, s283_77, hR.m.1, kn7, cl7, ag35, hz.2.1, N_ge1 (Nat.le_refl (vn V)) (show vn V < 2147483648 by omega), if_false, if_true, ck_v, ck_x, Option.toList, List.cons_append, List.nil_append, kil_nil, N_1, o10, o00, exN_0, exN_1, exN_2, exN_3, exN_4, exN_5, Ex]
    intro j0 hj0 hno
    have h0 := iter_fs (f := fun i => ev (evm (d + 6)) 283 37 [some (aR (12, 0, 0)), some (aI (N k)), some (aI (N i))] [] [] (I', M, R, G)) hs
    have hto : ev (evm (d + 6)) 283 37 [some (aR (12, 0, 0)), some (aI (N k)), some (aI (N 0))] [] [] (I', M, R, G) = ev (evm (d + 6)) 283 37 [some (aR (12, 0, 0)), some (aI (N k)), some (aI (N j0))] [] [] (I', M, R, G) := iter (f := fun i => ev (evm (d + 6)) 283 37 [some (aR (12, 0, 0)), some (aI (N k)), some (aI (N i))] [] [] (I', M, R, G)) (n := j0) (fun i hi => by
      rw [hs i (by omega), hno i hi]
      rfl)
    rw [← hto]
    refine h0.trans ?_
    rw [he]
  refine loop (n := vn V) (P := fun k _ => ∀ i, i < k → bad2 V day i = false) (f := fun k (l2 : Option AV) => ev (evm (d + 6)) 283 7 [some (aR (12, 0, 0)), some (aI (N k)), l2] [] [] (I', M, R, G)) (fun k l2 hk hP => ?_) (fun l2 hP => ?_) none (fun i hi => absurd hi (Nat.not_lt_zero i))
  · by_cases h1 : day < vf V k 4
    · by_cases h2 : fs (fun j => decide (j ≠ k) && cfv V k j) (vn V) < vn V
      · left
        have hb : bad2 V day k = true := by
          unfold bad2
          rw [decide_eq_true h2, Bool.or_true]
        rw [s283_7]
        simp only [m283, s283_0, s283_1, s283_2, s283_5, s283_6, s283_8, s283_9, s283_12, s283_14, s283_15, s283_18, s283_19, s283_20, s283_21, s283_24, s283_25, s283_28, s283_29, s283_30, s283_33, s283_34, s283_35, s283_36, s283_38, s283_39, s283_42, s283_44, s283_45, s283_48, s283_49, s283_50, s283_53, s283_54, s283_55, s283_56, s283_59, s283_62, s283_63, s283_64, s283_67, s283_70, s283_73, s283_76, s283_77, hR.m.1, kn7, kn3, cl3, cl7, ag35, hz.2.1, hdz, N_ge hk (show vn V < 2147483648 by omega), fV4 hR hz hk, if_false, if_true, ck_v, ck_x, Option.toList, List.cons_append, List.nil_append, kil_nil, N_1, o10, o00, exN_0, exN_1, exN_2, exN_3, exN_4, exN_5, Ex, if_pos h1]
        refine (inner k hk 0 (Nat.zero_le _) (fun i hi => absurd hi (Nat.not_lt_zero i))).trans ?_
        rw [if_pos h2, if_pos (fs_ex.mpr ⟨k, hk, hb⟩)]
      · right
        refine ⟨some (aI (N (vn V))), fun i hi => ?_, ?_⟩
        · rcases Nat.lt_succ_iff_lt_or_eq.mp hi with hl | rfl
          · exact hP i hl
          · unfold bad2
            rw [decide_eq_false (fun q => q h1), decide_eq_false h2]
            rfl
        · show ev _ 283 7 _ _ _ _ = ev _ 283 7 _ _ _ _
          rw [s283_7]
          simp only [m283, s283_0, s283_1, s283_2, s283_5, s283_6, s283_8, s283_9, s283_12, s283_14, s283_15, s283_18, s283_19, s283_20, s283_21, s283_24, s283_25, s283_28, s283_29, s283_30, s283_33, s283_34, s283_35, s283_36, s283_38, s283_39, s283_42, s283_44, s283_45, s283_48, s283_49, s283_50, s283_53, s283_54, s283_55, s283_56, s283_59, s283_62, s283_63, s283_64, s283_67, s283_70, s283_73, s283_76, s283_77, hR.m.1, kn7, kn3, cl3, cl7, ag35, hz.2.1, hdz, N_ge hk (show vn V < 2147483648 by omega), fV4 hR hz hk, if_false, if_true, ck_v, ck_x, Option.toList, List.cons_append, List.nil_append, kil_nil, N_1, o10, o00, exN_0, exN_1, exN_2, exN_3, exN_4, exN_5, Ex, if_pos h1]
          refine (inner k hk 0 (Nat.zero_le _) (fun i hi => absurd hi (Nat.not_lt_zero i))).trans ?_
          rw [if_neg h2]
    · left
      have hb : bad2 V day k = true := by simp [bad2, h1]
      show ev _ 283 7 _ _ _ _ = _
      rw [s283_7]
      simp only [m283, s283_0, s283_1, s283_2, s283_5, s283_6, s283_8, s283_9, s283_12, s283_14, s283_15, s283_18, s283_19, s283_20, s283_21, s283_24, s283_25, s283_28, s283_29, s283_30, s283_33, s283_34, s283_35, s283_36, s283_38, s283_39, s283_42, s283_44, s283_45, s283_48, s283_49, s283_50, s283_53, s283_54, s283_55, s283_56, s283_59, s283_62, s283_63, s283_64, s283_67, s283_70, s283_73, s283_76, s283_77, hR.m.1, kn7, kn3, cl3, cl7, ag35, hz.2.1, hdz, N_ge hk (show vn V < 2147483648 by omega), fV4 hR hz hk, if_false, if_true, ck_v, ck_x, Option.toList, List.cons_append, List.nil_append, kil_nil, N_1, o10, o00, exN_0, exN_1, exN_2, exN_3, exN_4, exN_5, Ex, if_neg h1, true_or]
      rw [if_pos (fs_ex.mpr ⟨k, hk, hb⟩)]
  · show ev _ 283 7 _ _ _ _ = _
    rw [s283_7]
    simp only [m283, s283_0, s283_1, s283_2, s283_5, s283_6, s283_8, s283_9, s283_12, s283_14, s283_15, s283_18, s283_19, s283_20, s283_21, s283_24, s283_25, s283_28, s283_29, s283_30, s283_33, s283_34, s283_35, s283_36, s283_38, s283_39, s283_42, s283_44, s283_45, s283_48, s283_49, s283_50, s283_53, s283_54, s283_55, s283_56, s283_59, s283_62, s283_63, s283_64, s283_67, s283_70, s283_73, s283_76, s283_77, hR.m.1, kn7, cl7, ag35, hz.2.1, N_ge1 (Nat.le_refl (vn V)) (show vn V < 2147483648 by omega), if_false, if_true, ck_v, ck_x, Option.toList, List.cons_append, List.nil_append, kil_nil, N_1, o10, o00, exN_0, exN_1, exN_2, exN_3, exN_4, exN_5, Ex, or_true]
    rw [if_neg]
    rintro hq
    obtain ⟨k, hk, hb⟩ := fs_ex.mp hq
    rw [hP k hk] at hb
    cases hb
theorem usedSpanM_ok (hR : RF R) (hV : MV I V) : evm (d + 3) 302 [aR (12, 0, 0)] (I, M, R, G) = some (.inl (some (aI (usd V))), (thr I 0, M, R, G)) := by
  rw [m302]
  have h7 := hV.2.2.1
  have hz := hV.thr (x := 0)
  simp only [s302_0, s302_1, s302_2, s302_5, s302_7, s302_8, s302_9, s302_10, s302_11, kil_nil]
  show ev (evm (d + 2)) 302 12 [some (aR (12, 0, 0)), some (aI 8), some (aI (-1)), some (aI 0)] [] [] (thr I 0, M, R, G) = _
  generalize thr I 0 = I' at hz
  have hs : ∀ k, k < vn V → ev (evm (d + 2)) 302 12 [some (aR (12, 0, 0)), some (aI (lowc V k)), some (aI (hghc V k)), some (aI (N k))] [] [] (I', M, R, G) = ev (evm (d + 2)) 302 12 [some (aR (12, 0, 0)), some (aI (lowc V (k + 1))), some (aI (hghc V (k + 1))), some (aI (N (k + 1)))] [] [] (I', M, R, G) := by
    intro k hk
    rw [s302_12, lowc, hghc]
    simp only [m302, s302_0, s302_1, s302_2, s302_5, s302_7, s302_8, s302_9, s302_10, s302_11, s302_13, s302_14, s302_17, s302_19, s302_20, s302_23, s302_24, s302_25, s302_28, s302_31, s302_34, s302_35, s302_36, s302_37, s302_40, s302_41, s302_44, s302_45, s302_46, s302_47, s302_50, s302_53, s302_54, s302_55, s302_56, s302_57, s302_58, s302_61, s302_62, s302_65, s302_66, s302_67, s302_68, s302_71, s302_74, s302_75, s302_76, s302_79, s302_82, s302_83, s302_86, s302_87, s302_90, s302_91, s302_92, s302_93, s302_94, s302_95, hR.m.1, kn7, cl7, ag35, hz.2.1, N_ge hk (show vn V < 2147483648 by omega), isLicensed_ok hR hz hk, fV3 hR hz hk, if_false, if_true, ck_v, ck_x, Option.toList, List.cons_append, List.nil_append, kil_nil, N_1, o10, o00, exN_0, exN_1, exN_2, exN_3, exN_4, exN_5, Ex, ite_le, licv]
    by_cases hl : vl V k = true <;> by_cases h1 : vf V k 3 < lowc V k <;> by_cases h2 : hghc V k < vf V k 3 <;> simp [hl, h1, h2]
  refine (iter (f := fun k => ev (evm (d + 2)) 302 12 [some (aR (12, 0, 0)), some (aI (lowc V k)), some (aI (hghc V k)), some (aI (N k))] [] [] (I', M, R, G)) hs).trans ?_
  rw [s302_12]
  simp only [m302, s302_0, s302_1, s302_2, s302_5, s302_7, s302_8, s302_9, s302_10, s302_11, s302_13, s302_14, s302_17, s302_19, s302_20, s302_23, s302_24, s302_25, s302_28, s302_31, s302_34, s302_35, s302_36, s302_37, s302_40, s302_41, s302_44, s302_45, s302_46, s302_47, s302_50, s302_53, s302_54, s302_55, s302_56, s302_57, s302_58, s302_61, s302_62, s302_65, s302_66, s302_67, s302_68, s302_71, s302_74, s302_75, s302_76, s302_79, s302_82, s302_83, s302_86, s302_87, s302_90, s302_91, s302_92, s302_93, s302_94, s302_95, hR.m.1, kn7, cl7, ag35, hz.2.1, N_ge1 (Nat.le_refl (vn V)) (show vn V < 2147483648 by omega), if_true, usd, ite_le]
  split <;> rfl
theorem stationByExpiryM_ok {k : Nat} {p : Int32} (hR : RF R) (hV : MV I V) (hp : ¬ p < 0 ∧ p < N (vn V)) (hk : fs (fun k => decide (erl V k = p)) (vn V) = k) (hkn : k < vn V) : evm (d + 3) 264 [aR (12, 0, 0), aI p] (I, M, R, G) = some (.inl (some (aI (vf V k 0))), (thr I 0, M, R, G)) := by
  have h7 := hV.2.2.1
  have hr : rg p 0 (N (vn V) - 1) := by
    refine ⟨hp.1, ?_⟩
    have e : N (vn V) - 1 = N (vn V - 1) := by
      have h9 : N (vn V - 1) + 1 = N (vn V) := by
        rw [N_1]
        congr 1
        omega
      rw [← h9]
      grind
    rw [e]
    intro q
    have h1 := hp.2
    simp only [Int32.lt_iff_toInt_lt] at q h1
    have e1 : (N (vn V - 1)).toInt = ((vn V - 1 : Nat) : Int) := Int32.toInt_ofNat_of_lt (by omega)
    have e2 : (N (vn V)).toInt = ((vn V : Nat) : Int) := Int32.toInt_ofNat_of_lt (by omega)
    omega
  have hz := hV.thr (x := 0)
  rw [m264]
  simp only [s264_0, s264_1, s264_2, s264_3, s264_4, s264_7, s264_9, s264_10, s264_11, s264_12, s264_15, s264_18, s264_21, s264_22, s264_23, s264_24, hR.m.1, kn7, cl7, ag35, hV.2.1, in_ok, if_pos hr, checked_1, if_false, if_true, ck_v, ck_x, Option.toList, List.cons_append, List.nil_append, kil_nil, N_1, o10, o00, exN_0, exN_1, exN_2, exN_3, exN_4, exN_5, Ex, ite_le, show ((0 : Int32) < 0) = False from by simp]
  have hs : ∀ i, i < vn V → ev (evm (d + 2)) 264 25 [some (aR (12, 0, 0)), some (aI p), some (aI (N i))] [] [] (thr I 0, M, R, G) = if decide (erl V i = p) = true then some (.inl (some (aI (vf V i 0))), (thr I 0, M, R, G)) else ev (evm (d + 2)) 264 25 [some (aR (12, 0, 0)), some (aI p), some (aI (N (i + 1)))] [] [] (thr I 0, M, R, G) := by
    intro i hi
    rw [s264_25]
    simp only [m264, s264_0, s264_1, s264_2, s264_3, s264_4, s264_7, s264_9, s264_10, s264_11, s264_12, s264_15, s264_18, s264_21, s264_22, s264_23, s264_24, s264_26, s264_27, s264_30, s264_31, s264_34, s264_37, s264_40, s264_41, s264_42, s264_43, s264_46, aheadByExpiry_ok hR hz hi, fV0 hR hz hi, if_false, if_true, ck_v, ck_x, Option.toList, List.cons_append, List.nil_append, kil_nil, N_1, o10, o00, exN_0, exN_1, exN_2, exN_3, exN_4, exN_5, Ex, decide_eq_true_eq]
  refine (iter_fs (f := fun i => ev (evm (d + 2)) 264 25 [some (aR (12, 0, 0)), some (aI p), some (aI (N i))] [] [] (thr I 0, M, R, G)) hs).trans ?_
  rw [hk, if_pos hkn]
theorem pos_no {p : Int32} {n : Nat} (hn : n ≤ 7) (hp : ¬ (¬ p < 0 ∧ p < N n)) : ¬ rg p 0 (N n - 1) := by
  rintro ⟨h1, h2⟩
  apply hp
  refine ⟨h1, ?_⟩
  cases n with
  | zero =>
    exfalso
    apply h2
    have e : N 0 - 1 = -1 := by decide
    rw [e]
    simp only [Int32.lt_iff_toInt_lt] at h1 ⊢
    have e1 : (-1 : Int32).toInt = -1 := by decide
    have e2 : (0 : Int32).toInt = 0 := by decide
    omega
  | succ n =>
    have e : N (n + 1) - 1 = N n := by
      rw [← N_1]
      grind
    rw [e] at h2
    simp only [Int32.lt_iff_toInt_lt] at h2 ⊢
    have e1 : (N n).toInt = ((n : Nat) : Int) := Int32.toInt_ofNat_of_lt (by omega)
    have e2 : (N (n + 1)).toInt = ((n + 1 : Nat) : Int) := Int32.toInt_ofNat_of_lt (by omega)
    omega
theorem stationAtM_no {p : Int32} (hR : RF R) (hV : MV I V) (hp : ¬ (¬ p < 0 ∧ p < N (vn V))) : evm (d + 2) 263 [aR (12, 0, 0), aI p] (I, M, R, G) = some (.inl (some (aI 0)), (thr I 1, M, R, G)) := by
  simp only [m263, s263_0, s263_1, s263_2, s263_3, s263_4, s263_7, s263_9, s263_10, s263_11, s263_12, s263_15, s263_18, s263_21, s263_22, s263_25, s263_26, s263_27, s263_28, s263_31, hR.m.1, kn7, cl7, ag35, hV.2.1, in_ok, if_neg (pos_no hV.2.2.1 hp), checked_0, if_false, if_true, ck_v, ck_x, Option.toList, List.cons_append, List.nil_append, kil_nil, N_1, o10, o00, exN_0, exN_1, exN_2, exN_3, exN_4, exN_5, Ex, ite_le, show ((0 : Int32) < 1) = True from by decide]
theorem stationByExpiryM_no {p : Int32} (hR : RF R) (hV : MV I V) (hp : ¬ (¬ p < 0 ∧ p < N (vn V))) : evm (d + 3) 264 [aR (12, 0, 0), aI p] (I, M, R, G) = some (.inl (some (aI 0)), (thr I 1, M, R, G)) := by
  simp only [m264, s264_0, s264_1, s264_2, s264_3, s264_4, s264_7, s264_9, s264_10, s264_11, s264_12, s264_15, s264_18, s264_21, s264_22, s264_23, s264_24, s264_25, s264_26, s264_27, s264_30, s264_31, s264_34, s264_37, s264_40, s264_41, s264_42, s264_43, s264_46, hR.m.1, kn7, cl7, ag35, hV.2.1, in_ok, if_neg (pos_no hV.2.2.1 hp), checked_0, if_false, if_true, ck_v, ck_x, Option.toList, List.cons_append, List.nil_append, kil_nil, N_1, o10, o00, exN_0, exN_1, exN_2, exN_3, exN_4, exN_5, Ex, ite_le, show ((0 : Int32) < 1) = True from by decide]
theorem meanDisturbanceM_ok (hR : RF R) (hV : MV I V) (hW : WV V) : evm (d + 4) 282 [aR (12, 0, 0)] (I, M, R, G) = if sm (licv V) (vn V) = 0 then some (.inl (some (aF 0)), (thr I 1, M, R, G)) else some (.inl (some (aF (FP.fdiv (FP.i2f (sdv V)) (FP.i2f (sm (licv V) (vn V)))))), (thr I 0, M, R, G)) := by
  obtain ⟨s, hs, e1⟩ := sdv_N hW
  obtain ⟨l, hl, e2⟩ := lic_N (V := V) (n := vn V)
  have h7 := hV.2.2.1
  have hz := hV.thr (x := 0)
  by_cases h0 : l = 0
  · have e3 : sm (licv V) (vn V) = 0 := by
      rw [e2, h0]
      rfl
    rw [if_pos e3]
    simp only [m282, s282_0, s282_1, s282_2, s282_5, s282_8, s282_9, s282_12, s282_13, s282_16, s282_19, s282_20, s282_21, s282_22, s282_23, s282_24, s282_25, s282_26, s282_27, s282_30, s282_32, s282_33, s282_36, s282_37, s282_38, s282_39, s282_42, s282_45, s282_46, s282_47, s282_48, s282_49, s282_52, s282_53, s282_54, s282_55, s282_58, s282_59, s282_60, s282_61, s282_64, s282_65, s282_68, s282_71, s282_72, s282_73, s282_74, s282_77, s282_80, s282_81, s282_82, s282_83, s282_86, s282_87, s282_88, licensedM_ok hR hV, e3, if_false, if_true, ck_v, ck_x, Option.toList, List.cons_append, List.nil_append, kil_nil, N_1, o10, o00, exN_0, exN_1, exN_2, exN_3, exN_4, exN_5, Ex, ite_le, show ((0 : Int32) < 0) = False from by simp, checked_0, show ((0 : Int32) < 1) = True from by decide]
  · obtain ⟨l', rfl⟩ : ∃ l', l = l' + 1 := ⟨l - 1, by omega⟩
    have hm := mean_ok s (by omega) l' (by omega)
    have hpos : ((0 : Int32) < N (l' + 1)) = True := N_lt1 (a := 0) (by omega) (by omega)
    have hne : ¬ sm (licv V) (vn V) = 0 := fun q => by
      rw [e2, ← N_0, N_inj (by omega) (by omega)] at q
      exact absurd q (by omega)
    rw [if_neg hne, m282]
    have e4 : sm (licv V) (vn V) = N (l' + 1) := e2
    simp only [s282_0, s282_1, s282_2, s282_5, s282_8, s282_9, s282_12, s282_13, s282_16, s282_19, s282_20, s282_21, s282_22, s282_23, s282_24, licensedM_ok hR hV, e4, if_false, if_true, ck_v, ck_x, Option.toList, List.cons_append, List.nil_append, kil_nil, N_1, o10, o00, exN_0, exN_1, exN_2, exN_3, exN_4, exN_5, Ex, ite_le, hpos, checked_1, show ((0 : Int32) < 0) = False from by simp]
    have hst : ∀ k, k < vn V → ev (evm (d + 3)) 282 25 [some (aR (12, 0, 0)), some (aI (sm (fun k => if vl V k = true then dst V (vf V k 1) (vf V k 2) (vf V k 3) (N k) else 0) k)), some (aI (N k))] [] [] (thr I 0, M, R, G) = ev (evm (d + 3)) 282 25 [some (aR (12, 0, 0)), some (aI (sm (fun k => if vl V k = true then dst V (vf V k 1) (vf V k 2) (vf V k 3) (N k) else 0) (k + 1))), some (aI (N (k + 1)))] [] [] (thr I 0, M, R, G) := by
      intro k hk
      rw [s282_25, sm_s]
      simp only [m282, s282_0, s282_1, s282_2, s282_5, s282_8, s282_9, s282_12, s282_13, s282_16, s282_19, s282_20, s282_21, s282_22, s282_23, s282_24, s282_26, s282_27, s282_30, s282_32, s282_33, s282_36, s282_37, s282_38, s282_39, s282_42, s282_45, s282_46, s282_47, s282_48, s282_49, s282_52, s282_53, s282_54, s282_55, s282_58, s282_59, s282_60, s282_61, s282_64, s282_65, s282_68, s282_71, s282_72, s282_73, s282_74, s282_77, s282_80, s282_81, s282_82, s282_83, s282_86, s282_87, s282_88, hR.m.1, kn7, cl7, ag35, hz.2.1, N_ge hk (show vn V < 2147483648 by omega), isLicensed_ok hR hz hk, fV1 hR hz hk, fV2 hR hz hk, fV3 hR hz hk, disturbanceM_ok hR hz, if_false, if_true, ck_v, ck_x, Option.toList, List.cons_append, List.nil_append, kil_nil, N_1, o10, o00, exN_0, exN_1, exN_2, exN_3, exN_4, exN_5, Ex, licv]
      cases vl V k <;> simp
    refine (iter (f := fun k => ev (evm (d + 3)) 282 25 [some (aR (12, 0, 0)), some (aI (sm (fun k => if vl V k = true then dst V (vf V k 1) (vf V k 2) (vf V k 3) (N k) else 0) k)), some (aI (N k))] [] [] (thr I 0, M, R, G)) hst).trans ?_
    show ev (evm (d + 3)) 282 25 [some (aR (12, 0, 0)), some (aI (sdv V)), some (aI (N (vn V)))] [] [] (thr I 0, M, R, G) = _
    rw [s282_25]
    simp only [m282, s282_0, s282_1, s282_2, s282_5, s282_8, s282_9, s282_12, s282_13, s282_16, s282_19, s282_20, s282_21, s282_22, s282_23, s282_24, s282_26, s282_27, s282_30, s282_32, s282_33, s282_36, s282_37, s282_38, s282_39, s282_42, s282_45, s282_46, s282_47, s282_48, s282_49, s282_52, s282_53, s282_54, s282_55, s282_58, s282_59, s282_60, s282_61, s282_64, s282_65, s282_68, s282_71, s282_72, s282_73, s282_74, s282_77, s282_80, s282_81, s282_82, s282_83, s282_86, s282_87, s282_88, hR.m.1, kn7, cl7, ag35, hz.2.1, N_ge1 (Nat.le_refl (vn V)) (show vn V < 2147483648 by omega), licensedM_ok hR hz, if_false, if_true, ck_v, ck_x, Option.toList, List.cons_append, List.nil_append, kil_nil, N_1, o10, o00, exN_0, exN_1, exN_2, exN_3, exN_4, exN_5, Ex, e1, e4, hm]
theorem moveCountM_ok (hR : RF R) (h : MW (I (35, 0, 0)) B) : evm (d + 2) 294 [aR (12, 0, 0)] (I, M, R, G) = if bmov B < 0 then some (.inl (some (aI 0)), (thr I 1, M, R, G)) else some (.inl (some (aI (bmov B))), (thr I 0, M, R, G)) := by
  by_cases h1 : bmov B < 0
  · simp only [m294, s294_0, s294_1, s294_2, s294_5, s294_7, s294_8, s294_11, s294_12, s294_15, s294_16, s294_19, s294_22, s294_23, s294_26, s294_27, s294_30, s294_32, s294_33, hR.m.1, kn8, cl8, ag35, h.2.2.2.2.1, h1, checked_0, if_false, if_true, ck_v, ck_x, Option.toList, List.cons_append, List.nil_append, kil_nil, N_1, o10, o00, exN_0, exN_1, exN_2, exN_3, exN_4, exN_5, Ex, ite_le, show ((0 : Int32) < 1) = True from by decide]
  · have e : thr I 0 (35, 0, 0) 8 = bmov B := by rw [thr_ne (by decide)]; exact h.2.2.2.2.1
    simp only [m294, s294_0, s294_1, s294_2, s294_5, s294_7, s294_8, s294_11, s294_12, s294_15, s294_16, s294_19, s294_22, s294_23, s294_26, s294_27, s294_30, s294_32, s294_33, hR.m.1, kn8, cl8, ag35, h.2.2.2.2.1, e, h1, checked_1, if_false, if_true, ck_v, ck_x, Option.toList, List.cons_append, List.nil_append, kil_nil, N_1, o10, o00, exN_0, exN_1, exN_2, exN_3, exN_4, exN_5, Ex, ite_le, show ((0 : Int32) < 0) = False from by simp]
theorem movedStationM_ok {m : Nat} (hR : RF R) (h : MW (I (35, 0, 0)) B) (hm : m < 2) (hmb : N m < bmov B) (hr : rg (N m) 0 (bmov B - 1)) : evm (d + 3) 295 [aR (12, 0, 0), aI (N m)] (I, M, R, G) = some (.inl (some (aI (bpl B (3 * m)))), (thr I 0, M, R, G)) := by
  have e : 9 + 3 * N m + 0 = N (9 + 3 * m) := by
    show N 9 + N 3 * N m + N 0 = _
    rw [N_mul, N_add, N_add]
    exact congrArg N (by omega)
  have e2 : thr I 0 (35, 0, 0) (9 + 3 * m) = bpl B (3 * m) := by
    rw [thr_ne (by decide)]
    exact (h.2.2.2.2.2.1 m hm hmb).1
  simp only [m295, s295_0, s295_1, s295_2, s295_3, s295_6, m296, s296_0, s296_1, s296_2, s296_3, s296_4, s296_7, s296_9, s296_10, s296_11, s296_12, s296_15, s296_18, s296_21, s296_22, s296_25, s296_26, s296_29, s296_31, s296_32, s296_33, s296_34, s296_35, s296_36, s296_37, s296_38, hR.m.1, kn8, cl8, ag35, h.2.2.2.2.1, in_ok, if_pos hr, checked_1, if_false, if_true, ck_v, ck_x, Option.toList, List.cons_append, List.nil_append, kil_nil, N_1, o10, o00, exN_0, exN_1, exN_2, exN_3, exN_4, exN_5, Ex, ite_le, show ((0 : Int32) < 0) = False from by simp, e, kn (show 9 + 3 * m < 106 by omega), N_cl (show 9 + 3 * m < 2147483648 by omega), e2]
theorem movedStationM_no {p : Int32} (hR : RF R) (h : MW (I (35, 0, 0)) B) (hr : ¬ rg p 0 (bmov B - 1)) : evm (d + 3) 295 [aR (12, 0, 0), aI p] (I, M, R, G) = some (.inl (some (aI 0)), (thr I 1, M, R, G)) := by
  simp only [m295, s295_0, s295_1, s295_2, s295_3, s295_6, m296, s296_0, s296_1, s296_2, s296_3, s296_4, s296_7, s296_9, s296_10, s296_11, s296_12, s296_15, s296_18, s296_21, s296_22, s296_25, s296_26, s296_29, s296_31, s296_32, s296_33, s296_34, s296_35, s296_36, s296_37, s296_38, hR.m.1, kn8, cl8, ag35, h.2.2.2.2.1, in_ok, if_neg hr, checked_0, if_false, if_true, ck_v, ck_x, Option.toList, List.cons_append, List.nil_append, kil_nil, N_1, o10, o00, exN_0, exN_1, exN_2, exN_3, exN_4, exN_5, Ex, ite_le, show ((0 : Int32) < 1) = True from by decide]
theorem movedFromM_ok {m : Nat} (hR : RF R) (h : MW (I (35, 0, 0)) B) (hm : m < 2) (hmb : N m < bmov B) (hr : rg (N m) 0 (bmov B - 1)) : evm (d + 3) 297 [aR (12, 0, 0), aI (N m)] (I, M, R, G) = some (.inl (some (aI (bpl B (3 * m + 1)))), (thr I 0, M, R, G)) := by
  have e : 9 + 3 * N m + 1 = N (10 + 3 * m) := by
    show N 9 + N 3 * N m + N 1 = _
    rw [N_mul, N_add, N_add]
    exact congrArg N (by omega)
  have e2 : thr I 0 (35, 0, 0) (10 + 3 * m) = bpl B (3 * m + 1) := by
    rw [thr_ne (by decide)]
    exact (h.2.2.2.2.2.1 m hm hmb).2.1
  simp only [m297, s297_0, s297_1, s297_2, s297_3, s297_6, m296, s296_0, s296_1, s296_2, s296_3, s296_4, s296_7, s296_9, s296_10, s296_11, s296_12, s296_15, s296_18, s296_21, s296_22, s296_25, s296_26, s296_29, s296_31, s296_32, s296_33, s296_34, s296_35, s296_36, s296_37, s296_38, hR.m.1, kn8, cl8, ag35, h.2.2.2.2.1, in_ok, if_pos hr, checked_1, if_false, if_true, ck_v, ck_x, Option.toList, List.cons_append, List.nil_append, kil_nil, N_1, o10, o00, exN_0, exN_1, exN_2, exN_3, exN_4, exN_5, Ex, ite_le, show ((0 : Int32) < 0) = False from by simp, e, kn (show 10 + 3 * m < 106 by omega), N_cl (show 10 + 3 * m < 2147483648 by omega), e2]
theorem movedFromM_no {p : Int32} (hR : RF R) (h : MW (I (35, 0, 0)) B) (hr : ¬ rg p 0 (bmov B - 1)) : evm (d + 3) 297 [aR (12, 0, 0), aI p] (I, M, R, G) = some (.inl (some (aI 0)), (thr I 1, M, R, G)) := by
  simp only [m297, s297_0, s297_1, s297_2, s297_3, s297_6, m296, s296_0, s296_1, s296_2, s296_3, s296_4, s296_7, s296_9, s296_10, s296_11, s296_12, s296_15, s296_18, s296_21, s296_22, s296_25, s296_26, s296_29, s296_31, s296_32, s296_33, s296_34, s296_35, s296_36, s296_37, s296_38, hR.m.1, kn8, cl8, ag35, h.2.2.2.2.1, in_ok, if_neg hr, checked_0, if_false, if_true, ck_v, ck_x, Option.toList, List.cons_append, List.nil_append, kil_nil, N_1, o10, o00, exN_0, exN_1, exN_2, exN_3, exN_4, exN_5, Ex, ite_le, show ((0 : Int32) < 1) = True from by decide]
theorem movedToM_ok {m : Nat} (hR : RF R) (h : MW (I (35, 0, 0)) B) (hm : m < 2) (hmb : N m < bmov B) (hr : rg (N m) 0 (bmov B - 1)) : evm (d + 3) 298 [aR (12, 0, 0), aI (N m)] (I, M, R, G) = some (.inl (some (aI (bpl B (3 * m + 2)))), (thr I 0, M, R, G)) := by
  have e : 9 + 3 * N m + 2 = N (11 + 3 * m) := by
    show N 9 + N 3 * N m + N 2 = _
    rw [N_mul, N_add, N_add]
    exact congrArg N (by omega)
  have e2 : thr I 0 (35, 0, 0) (11 + 3 * m) = bpl B (3 * m + 2) := by
    rw [thr_ne (by decide)]
    exact (h.2.2.2.2.2.1 m hm hmb).2.2
  simp only [m298, s298_0, s298_1, s298_2, s298_3, s298_6, m296, s296_0, s296_1, s296_2, s296_3, s296_4, s296_7, s296_9, s296_10, s296_11, s296_12, s296_15, s296_18, s296_21, s296_22, s296_25, s296_26, s296_29, s296_31, s296_32, s296_33, s296_34, s296_35, s296_36, s296_37, s296_38, hR.m.1, kn8, cl8, ag35, h.2.2.2.2.1, in_ok, if_pos hr, checked_1, if_false, if_true, ck_v, ck_x, Option.toList, List.cons_append, List.nil_append, kil_nil, N_1, o10, o00, exN_0, exN_1, exN_2, exN_3, exN_4, exN_5, Ex, ite_le, show ((0 : Int32) < 0) = False from by simp, e, kn (show 11 + 3 * m < 106 by omega), N_cl (show 11 + 3 * m < 2147483648 by omega), e2]
theorem movedToM_no {p : Int32} (hR : RF R) (h : MW (I (35, 0, 0)) B) (hr : ¬ rg p 0 (bmov B - 1)) : evm (d + 3) 298 [aR (12, 0, 0), aI p] (I, M, R, G) = some (.inl (some (aI 0)), (thr I 1, M, R, G)) := by
  simp only [m298, s298_0, s298_1, s298_2, s298_3, s298_6, m296, s296_0, s296_1, s296_2, s296_3, s296_4, s296_7, s296_9, s296_10, s296_11, s296_12, s296_15, s296_18, s296_21, s296_22, s296_25, s296_26, s296_29, s296_31, s296_32, s296_33, s296_34, s296_35, s296_36, s296_37, s296_38, hR.m.1, kn8, cl8, ag35, h.2.2.2.2.1, in_ok, if_neg hr, checked_0, if_false, if_true, ck_v, ck_x, Option.toList, List.cons_append, List.nil_append, kil_nil, N_1, o10, o00, exN_0, exN_1, exN_2, exN_3, exN_4, exN_5, Ex, ite_le, show ((0 : Int32) < 1) = True from by decide]
end MASK2
