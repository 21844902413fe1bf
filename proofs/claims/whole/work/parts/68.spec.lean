/-! THE METHODS' MEANING: the model's confirm, renew, pass, startTrial -/
section MOPS
variable {d : Nat} {I I' I'' : OId → Nat → Int32} {M R : OId → Nat → AV} {G : SG} {B B' : Bk} {V : Vw} {hs : List Bk} {sn : Option Bk}
theorem plc_no {k n : Nat} (h : ¬ k < n) : plc k n = -1 := if_neg h
theorem m1n : ((-1 : Int32) < 0) = True := by decide
theorem MR.confirm {id days : Int32} (hR : RF R) (h : MR I B hs sn) (h1 : fid B.1 id < vn B.1) (h2 : rg days 1 365) (h3 : vl B.1 (fid B.1 id) = false) : ∃ I', evm (d + 3) 252 [aR (12, 0, 0), aI id, aI days] (I, M, R, G) = some (.inl (some (aI (bday B + days))), (I', M, R, G)) ∧ I' (12, 0, 0) 7 = 0 ∧ MR I' (fdB (liB B (fid B.1 id)) (fid B.1 id) 4 (bday B + days)) (kph B hs) sn ∧ FM I I' := by
  obtain ⟨I1, k1, k2, k3, k4⟩ := MR.keep (d := d) (M := M) (G := G) hR (h.th (x := 0))
  have h7 := h.1.2.2.2.1
  have hk : fid B.1 id < 7 := by omega
  have f2 : F35 I1 (setI (setI I1 (35, 0, 0) (15 + 6 * fid B.1 id + 5) 1) (35, 0, 0) (15 + 6 * fid B.1 id + 4) (bday B + days)) := (F35.rf.st).st
  have w1 := mw_li k2.1 hk
  have w2 := mw_fd (g := 4) (v := bday B + days) w1 hk (by decide)
  have e3 : setI I1 (35, 0, 0) (15 + 6 * fid B.1 id + 5) 1 (35, 0, 0) 3 = bday B := w1.2.1.1
  have e3' : setI (setI I1 (35, 0, 0) (15 + 6 * fid B.1 id + 5) 1) (35, 0, 0) (15 + 6 * fid B.1 id + 4) (bday B + days) (35, 0, 0) 3 = bday B := w2.2.1.1
  have hl0 : licv B.1 (fid B.1 id) = 0 := by unfold licv; rw [h3]; rfl
  refine ⟨_, ?_, ?_, k2.mod f2 w2, (thr_fm.tr (keep_fm k3)).tr f2.fm⟩
  · simp only [m252, s252_0, s252_1, s252_2, s252_5, s252_6, s252_7, s252_8, s252_11, s252_12, s252_15, s252_16, s252_17, s252_20, s252_23, s252_26, s252_27, s252_30, s252_31, s252_32, s252_35, s252_38, s252_39, s252_42, s252_43, s252_46, s252_47, s252_50, s252_53, s252_54, s252_55, s252_56, s252_59, s252_60, s252_61, s252_62, s252_63, s252_66, s252_67, s252_68, s252_69, s252_70, s252_73, s252_74, s252_75, s252_76, s252_77, s252_80, s252_81, s252_84, s252_85, s252_86, s252_87, s252_88, slotOf_f hR h.1.mv, plc_p h1, N_neg (show fid B.1 id < 2147483648 by omega), in_ok, if_pos h2, isLicensed_ok hR h.1.mv h1, hl0, ite_le, l00, t77, k1, lays5 hR hk, hR.m.1, kn3, cl3, ag35, e3, lays4 hR hk, e3', if_false, if_true, ck_v, ck_x, Option.toList, List.cons_append, List.nil_append, kil_nil, N_1, o10, o00, exN_0, exN_1, exN_2, exN_3, exN_4, exN_5, Ex]
  · rw [f2 _ (by simp), k4 7 (by decide), thr_at]
theorem MR.confirm_no1 {id days : Int32} (hR : RF R) (h : MR I B hs sn) (h1 : ¬ fid B.1 id < vn B.1) : evm (d + 3) 252 [aR (12, 0, 0), aI id, aI days] (I, M, R, G) = some (.inl (some (aI 0)), (thr I 1, M, R, G)) := by
  simp only [m252, s252_0, s252_1, s252_2, s252_5, s252_6, s252_7, s252_8, s252_11, s252_12, s252_15, s252_16, s252_17, s252_20, s252_23, s252_26, s252_27, s252_30, s252_31, s252_32, s252_35, s252_38, s252_39, s252_42, s252_43, s252_46, s252_47, s252_50, s252_53, s252_54, s252_55, s252_56, s252_59, s252_60, s252_61, s252_62, s252_63, s252_66, s252_67, s252_68, s252_69, s252_70, s252_73, s252_74, s252_75, s252_76, s252_77, s252_80, s252_81, s252_84, s252_85, s252_86, s252_87, s252_88, slotOf_f hR h.1.mv, plc_no h1, m1n, ite_le, o01, t77, if_false, if_true, ck_v, ck_x, Option.toList, List.cons_append, List.nil_append, kil_nil, N_1, o10, o00, exN_0, exN_1, exN_2, exN_3, exN_4, exN_5, Ex]
theorem MR.confirm_no2 {id days : Int32} (hR : RF R) (h : MR I B hs sn) (h1 : fid B.1 id < vn B.1) (h2 : ¬ rg days 1 365) : evm (d + 3) 252 [aR (12, 0, 0), aI id, aI days] (I, M, R, G) = some (.inl (some (aI 0)), (thr I 2, M, R, G)) := by
  have h7 := h.1.2.2.2.1
  simp only [m252, s252_0, s252_1, s252_2, s252_5, s252_6, s252_7, s252_8, s252_11, s252_12, s252_15, s252_16, s252_17, s252_20, s252_23, s252_26, s252_27, s252_30, s252_31, s252_32, s252_35, s252_38, s252_39, s252_42, s252_43, s252_46, s252_47, s252_50, s252_53, s252_54, s252_55, s252_56, s252_59, s252_60, s252_61, s252_62, s252_63, s252_66, s252_67, s252_68, s252_69, s252_70, s252_73, s252_74, s252_75, s252_76, s252_77, s252_80, s252_81, s252_84, s252_85, s252_86, s252_87, s252_88, slotOf_f hR h.1.mv, plc_p h1, N_neg (show fid B.1 id < 2147483648 by omega), in_ok, if_neg h2, ite_le, o02, t77, if_false, if_true, ck_v, ck_x, Option.toList, List.cons_append, List.nil_append, kil_nil, N_1, o10, o00, exN_0, exN_1, exN_2, exN_3, exN_4, exN_5, Ex]
theorem MR.confirm_no3 {id days : Int32} (hR : RF R) (h : MR I B hs sn) (h1 : fid B.1 id < vn B.1) (h2 : rg days 1 365) (h3 : vl B.1 (fid B.1 id) = true) : evm (d + 3) 252 [aR (12, 0, 0), aI id, aI days] (I, M, R, G) = some (.inl (some (aI 0)), (thr I 3, M, R, G)) := by
  have h7 := h.1.2.2.2.1
  have hl0 : licv B.1 (fid B.1 id) = 1 := by unfold licv; rw [h3]; rfl
  simp only [m252, s252_0, s252_1, s252_2, s252_5, s252_6, s252_7, s252_8, s252_11, s252_12, s252_15, s252_16, s252_17, s252_20, s252_23, s252_26, s252_27, s252_30, s252_31, s252_32, s252_35, s252_38, s252_39, s252_42, s252_43, s252_46, s252_47, s252_50, s252_53, s252_54, s252_55, s252_56, s252_59, s252_60, s252_61, s252_62, s252_63, s252_66, s252_67, s252_68, s252_69, s252_70, s252_73, s252_74, s252_75, s252_76, s252_77, s252_80, s252_81, s252_84, s252_85, s252_86, s252_87, s252_88, slotOf_f hR h.1.mv, plc_p h1, N_neg (show fid B.1 id < 2147483648 by omega), in_ok, if_pos h2, isLicensed_ok hR h.1.mv h1, hl0, ite_le, o03, t77, if_false, if_true, ck_v, ck_x, Option.toList, List.cons_append, List.nil_append, kil_nil, N_1, o10, o00, exN_0, exN_1, exN_2, exN_3, exN_4, exN_5, Ex]
theorem MR.renew {id days : Int32} (hR : RF R) (h : MR I B hs sn) (h1 : fid B.1 id < vn B.1) (h2 : rg days 1 365) (h3 : vl B.1 (fid B.1 id) = true) (h4 : vf B.1 (fid B.1 id) 4 + days ≤ bday B + 365) : ∃ I', evm (d + 3) 254 [aR (12, 0, 0), aI id, aI days] (I, M, R, G) = some (.inl (some (aI (vf B.1 (fid B.1 id) 4 + days))), (I', M, R, G)) ∧ I' (12, 0, 0) 7 = 0 ∧ MR I' (fdB B (fid B.1 id) 4 (vf B.1 (fid B.1 id) 4 + days)) (kph B hs) sn ∧ FM I I' := by
  obtain ⟨I1, k1, k2, k3, k4⟩ := MR.keep (d := d) (M := M) (G := G) hR (h.th (x := 0))
  have h7 := h.1.2.2.2.1
  have hk : fid B.1 id < 7 := by omega
  have w2 := mw_fd (g := 4) (v := vf B.1 (fid B.1 id) 4 + days) k2.1 hk (by decide)
  have f2 : F35 I1 (setI I1 (35, 0, 0) (15 + 6 * fid B.1 id + 4) (vf B.1 (fid B.1 id) 4 + days)) := F35.rf.st
  have hl0 : licv B.1 (fid B.1 id) = 1 := by unfold licv; rw [h3]; rfl
  have ev4 : vf (fdB B (fid B.1 id) 4 (vf B.1 (fid B.1 id) 4 + days)).1 (fid B.1 id) 4 = vf B.1 (fid B.1 id) 4 + days := if_pos ⟨rfl, rfl⟩
  have g4 := fV4 (d := d + 1) (M := M) (G := G) hR w2.mv h1
  rw [ev4] at g4
  refine ⟨_, ?_, ?_, k2.mod f2 w2, (thr_fm.tr (keep_fm k3)).tr f2.fm⟩
  · simp only [m254, s254_0, s254_1, s254_2, s254_5, s254_6, s254_7, s254_8, s254_11, s254_12, s254_15, s254_16, s254_17, s254_20, s254_23, s254_26, s254_27, s254_30, s254_31, s254_32, s254_35, s254_38, s254_39, s254_40, s254_41, s254_44, s254_45, s254_46, s254_47, s254_50, s254_51, s254_52, s254_55, s254_56, s254_59, s254_60, s254_63, s254_64, s254_67, s254_68, s254_71, s254_74, s254_75, s254_76, s254_77, s254_80, s254_81, s254_82, s254_83, s254_84, s254_85, s254_86, s254_89, s254_90, s254_91, s254_94, s254_95, s254_96, s254_97, s254_100, slotOf_f hR h.1.mv, plc_p h1, N_neg (show fid B.1 id < 2147483648 by omega), in_ok, if_pos h2, isLicensed_ok hR h.1.mv h1, hl0, fV4 hR h.1.mv h1, hR.m.1, kn3, cl3, ag35, h.1.2.1.1, if_pos h4, fV4 hR k2.1.mv h1, lays4 hR hk, g4, t77, k1, if_false, if_true, ck_v, ck_x, Option.toList, List.cons_append, List.nil_append, kil_nil, N_1, o10, o00, exN_0, exN_1, exN_2, exN_3, exN_4, exN_5, Ex, ite_le, l00]
  · rw [f2 _ (by simp), k4 7 (by decide), thr_at]
theorem MR.renew_no1 {id days : Int32} (hR : RF R) (h : MR I B hs sn) (h1 : ¬ fid B.1 id < vn B.1) : evm (d + 3) 254 [aR (12, 0, 0), aI id, aI days] (I, M, R, G) = some (.inl (some (aI 0)), (thr I 1, M, R, G)) := by
  simp only [m254, s254_0, s254_1, s254_2, s254_5, s254_6, s254_7, s254_8, s254_11, s254_12, s254_15, s254_16, s254_17, s254_20, s254_23, s254_26, s254_27, s254_30, s254_31, s254_32, s254_35, s254_38, s254_39, s254_40, s254_41, s254_44, s254_45, s254_46, s254_47, s254_50, s254_51, s254_52, s254_55, s254_56, s254_59, s254_60, s254_63, s254_64, s254_67, s254_68, s254_71, s254_74, s254_75, s254_76, s254_77, s254_80, s254_81, s254_82, s254_83, s254_84, s254_85, s254_86, s254_89, s254_90, s254_91, s254_94, s254_95, s254_96, s254_97, s254_100, slotOf_f hR h.1.mv, plc_no h1, m1n, ite_le, o01, t77, if_false, if_true, ck_v, ck_x, Option.toList, List.cons_append, List.nil_append, kil_nil, N_1, o10, o00, exN_0, exN_1, exN_2, exN_3, exN_4, exN_5, Ex]
theorem MR.renew_no2 {id days : Int32} (hR : RF R) (h : MR I B hs sn) (h1 : fid B.1 id < vn B.1) (h2 : ¬ rg days 1 365) : evm (d + 3) 254 [aR (12, 0, 0), aI id, aI days] (I, M, R, G) = some (.inl (some (aI 0)), (thr I 2, M, R, G)) := by
  have h7 := h.1.2.2.2.1
  simp only [m254, s254_0, s254_1, s254_2, s254_5, s254_6, s254_7, s254_8, s254_11, s254_12, s254_15, s254_16, s254_17, s254_20, s254_23, s254_26, s254_27, s254_30, s254_31, s254_32, s254_35, s254_38, s254_39, s254_40, s254_41, s254_44, s254_45, s254_46, s254_47, s254_50, s254_51, s254_52, s254_55, s254_56, s254_59, s254_60, s254_63, s254_64, s254_67, s254_68, s254_71, s254_74, s254_75, s254_76, s254_77, s254_80, s254_81, s254_82, s254_83, s254_84, s254_85, s254_86, s254_89, s254_90, s254_91, s254_94, s254_95, s254_96, s254_97, s254_100, slotOf_f hR h.1.mv, plc_p h1, N_neg (show fid B.1 id < 2147483648 by omega), in_ok, if_neg h2, ite_le, o02, t77, if_false, if_true, ck_v, ck_x, Option.toList, List.cons_append, List.nil_append, kil_nil, N_1, o10, o00, exN_0, exN_1, exN_2, exN_3, exN_4, exN_5, Ex]
theorem MR.renew_no3 {id days : Int32} (hR : RF R) (h : MR I B hs sn) (h1 : fid B.1 id < vn B.1) (h2 : rg days 1 365) (h3 : ¬ (vl B.1 (fid B.1 id) = true ∧ vf B.1 (fid B.1 id) 4 + days ≤ bday B + 365)) : evm (d + 3) 254 [aR (12, 0, 0), aI id, aI days] (I, M, R, G) = some (.inl (some (aI 0)), (thr I 3, M, R, G)) := by
  have h7 := h.1.2.2.2.1
  by_cases hl : vl B.1 (fid B.1 id) = true
  · have hl0 : licv B.1 (fid B.1 id) = 1 := by unfold licv; rw [hl]; rfl
    have h4 : ¬ vf B.1 (fid B.1 id) 4 + days ≤ bday B + 365 := fun q => h3 ⟨hl, q⟩
    simp only [m254, s254_0, s254_1, s254_2, s254_5, s254_6, s254_7, s254_8, s254_11, s254_12, s254_15, s254_16, s254_17, s254_20, s254_23, s254_26, s254_27, s254_30, s254_31, s254_32, s254_35, s254_38, s254_39, s254_40, s254_41, s254_44, s254_45, s254_46, s254_47, s254_50, s254_51, s254_52, s254_55, s254_56, s254_59, s254_60, s254_63, s254_64, s254_67, s254_68, s254_71, s254_74, s254_75, s254_76, s254_77, s254_80, s254_81, s254_82, s254_83, s254_84, s254_85, s254_86, s254_89, s254_90, s254_91, s254_94, s254_95, s254_96, s254_97, s254_100, slotOf_f hR h.1.mv, plc_p h1, N_neg (show fid B.1 id < 2147483648 by omega), in_ok, if_pos h2, isLicensed_ok hR h.1.mv h1, hl0, fV4 hR h.1.mv h1, hR.m.1, kn3, cl3, ag35, h.1.2.1.1, if_neg h4, t77, if_false, if_true, ck_v, ck_x, Option.toList, List.cons_append, List.nil_append, kil_nil, N_1, o10, o00, exN_0, exN_1, exN_2, exN_3, exN_4, exN_5, Ex, ite_le, o03]
  · have hl0 : licv B.1 (fid B.1 id) = 0 := by unfold licv; rw [if_neg hl]
    simp only [m254, s254_0, s254_1, s254_2, s254_5, s254_6, s254_7, s254_8, s254_11, s254_12, s254_15, s254_16, s254_17, s254_20, s254_23, s254_26, s254_27, s254_30, s254_31, s254_32, s254_35, s254_38, s254_39, s254_40, s254_41, s254_44, s254_45, s254_46, s254_47, s254_50, s254_51, s254_52, s254_55, s254_56, s254_59, s254_60, s254_63, s254_64, s254_67, s254_68, s254_71, s254_74, s254_75, s254_76, s254_77, s254_80, s254_81, s254_82, s254_83, s254_84, s254_85, s254_86, s254_89, s254_90, s254_91, s254_94, s254_95, s254_96, s254_97, s254_100, slotOf_f hR h.1.mv, plc_p h1, N_neg (show fid B.1 id < 2147483648 by omega), in_ok, if_pos h2, isLicensed_ok hR h.1.mv h1, hl0, t77, if_false, if_true, ck_v, ck_x, Option.toList, List.cons_append, List.nil_append, kil_nil, N_1, o10, o00, exN_0, exN_1, exN_2, exN_3, exN_4, exN_5, Ex, ite_le, o03]
theorem nmLoop {p q w : AV} (hR : RF R) : ∀ (i : Nat) (I : OId → Nat → Int32) (B : Bk), MW (I (35, 0, 0)) B → i ≤ vn B.1 → ∃ I', ev (evm (d + 2)) 257 85 [some (aR (12, 0, 0)), some p, some q, some w, some (aI (N i - 1))] [] [] (I, M, R, G) = ev (evm (d + 2)) 257 85 [some (aR (12, 0, 0)), some p, some q, some w, some (aI (N 0 - 1))] [] [] (I', M, R, G) ∧ MW (I' (35, 0, 0)) (ndL i B) ∧ F35 I I'
  | 0, I, B, h, _ => ⟨I, rfl, h, F35.rf⟩
  | i + 1, I, B, h, hi => by
    have h7 := h.2.2.2.1
    have e0 : N (i + 1) - 1 = N i := sub_N (by omega) (by omega)
    have e2 : N i + -1 = N i - 1 := addm _
    have g4 := fV4 (d := d + 1) (M := M) (G := G) hR h.mv (show i < vn B.1 by omega)
    by_cases hx : vf B.1 i 4 = bday B
    · obtain ⟨I1, k1, k2, k3⟩ := takesOut_ok (d := d) (M := M) (G := G) hR h (show i < vn B.1 by omega)
      have k4 : MW (setI I1 (35, 0, 0) 5 (bexp B + 1) (35, 0, 0)) (expB (remB B i)) := mw_scal k2 (by decide) rfl rfl rfl rfl
      obtain ⟨I', h1, h2, h3⟩ := nmLoop (p := p) (q := q) (w := w) hR i _ _ k4 (by show i ≤ vn B.1 - 1; omega)
      have e5 : I1 (35, 0, 0) 5 = bexp B := k2.2.1.2.2.1
      refine ⟨I', ?_, ?_, (F35.st k3).tr h3⟩
      · rw [s257_85]
        simp only [m257, s257_0, s257_1, s257_2, s257_3, s257_5, s257_8, s257_11, s257_12, s257_15, s257_16, s257_19, s257_20, s257_21, s257_22, s257_23, s257_26, s257_29, s257_30, s257_33, s257_34, s257_37, s257_38, s257_41, s257_44, s257_45, s257_46, s257_47, s257_50, s257_51, s257_54, s257_55, s257_56, s257_57, s257_58, s257_60, s257_61, s257_64, s257_65, s257_68, s257_69, s257_70, s257_71, s257_72, s257_73, s257_74, s257_75, s257_78, s257_80, s257_81, s257_82, s257_83, s257_87, s257_90, s257_91, s257_93, s257_94, s257_97, s257_98, s257_101, s257_102, s257_103, s257_106, s257_109, s257_110, s257_112, s257_115, s257_116, s257_119, s257_120, s257_121, s257_122, s257_123, s257_124, s257_125, s257_128, s257_131, s257_134, s257_137, s257_138, s257_141, s257_142, s257_143, s257_144, s257_145, e0, N_neg (show i < 2147483648 by omega), g4, hR.m.1, kn3, cl3, ag35, h.2.1.1, if_pos hx, k1, kn5, cl5, kw5, e5, if_false, if_true, ck_v, ck_x, Option.toList, List.cons_append, List.nil_append, kil_nil, N_1, o10, o00, exN_0, exN_1, exN_2, exN_3, exN_4, exN_5, Ex, e2]
        exact h1
      · unfold ndL
        rw [if_pos hx]
        exact h2
    · obtain ⟨I', h1, h2, h3⟩ := nmLoop (p := p) (q := q) (w := w) hR i I B h (by omega)
      refine ⟨I', ?_, ?_, h3⟩
      · rw [s257_85]
        simp only [m257, s257_0, s257_1, s257_2, s257_3, s257_5, s257_8, s257_11, s257_12, s257_15, s257_16, s257_19, s257_20, s257_21, s257_22, s257_23, s257_26, s257_29, s257_30, s257_33, s257_34, s257_37, s257_38, s257_41, s257_44, s257_45, s257_46, s257_47, s257_50, s257_51, s257_54, s257_55, s257_56, s257_57, s257_58, s257_60, s257_61, s257_64, s257_65, s257_68, s257_69, s257_70, s257_71, s257_72, s257_73, s257_74, s257_75, s257_78, s257_80, s257_81, s257_82, s257_83, s257_87, s257_90, s257_91, s257_93, s257_94, s257_97, s257_98, s257_101, s257_102, s257_103, s257_106, s257_109, s257_110, s257_112, s257_115, s257_116, s257_119, s257_120, s257_121, s257_122, s257_123, s257_124, s257_125, s257_128, s257_131, s257_134, s257_137, s257_138, s257_141, s257_142, s257_143, s257_144, s257_145, e0, N_neg (show i < 2147483648 by omega), g4, hR.m.1, kn3, cl3, ag35, h.2.1.1, if_neg hx, if_false, if_true, ck_v, ck_x, Option.toList, List.cons_append, List.nil_append, kil_nil, N_1, o10, o00, exN_0, exN_1, exN_2, exN_3, exN_4, exN_5, Ex, e2]
        exact h1
      · unfold ndL
        rw [if_neg hx]
        exact h2
theorem pmLoop {n : Nat} {b : Int32} (hn : n < 100) (hR : RF R) : ∀ (r k : Nat) (I : OId → Nat → Int32) (B : Bk) (l4 : Option AV), k + r = n → MW (I (35, 0, 0)) B → ∃ I', ev (evm (d + 2)) 257 59 [some (aR (12, 0, 0)), some (aI (N n)), some (aI b), some (aI (N k)), l4] [] [] (I, M, R, G) = some (.inl (some (aI (bexp (ndN r B) - b))), (I', M, R, G)) ∧ MW (I' (35, 0, 0)) (ndN r B) ∧ F35 I I'
  | 0, k, I, B, l4, hk, h => by
    refine ⟨I, ?_, h, F35.rf⟩
    rw [s257_59]
    simp only [m257, s257_0, s257_1, s257_2, s257_3, s257_5, s257_8, s257_11, s257_12, s257_15, s257_16, s257_19, s257_20, s257_21, s257_22, s257_23, s257_26, s257_29, s257_30, s257_33, s257_34, s257_37, s257_38, s257_41, s257_44, s257_45, s257_46, s257_47, s257_50, s257_51, s257_54, s257_55, s257_56, s257_57, s257_58, s257_60, s257_61, s257_64, s257_65, s257_68, s257_69, s257_70, s257_71, s257_72, s257_73, s257_74, s257_75, s257_78, s257_80, s257_81, s257_82, s257_83, s257_87, s257_90, s257_91, s257_93, s257_94, s257_97, s257_98, s257_101, s257_102, s257_103, s257_106, s257_109, s257_110, s257_112, s257_115, s257_116, s257_119, s257_120, s257_121, s257_122, s257_123, s257_124, s257_125, s257_128, s257_131, s257_134, s257_137, s257_138, s257_141, s257_142, s257_143, s257_144, s257_145, N_ge1 (show n ≤ k by omega) (show k < 2147483648 by omega), hR.m.1, kn5, cl5, ag35, h.2.1.2.2.1, if_false, if_true, ck_v, ck_x, Option.toList, List.cons_append, List.nil_append, kil_nil, N_1, o10, o00, exN_0, exN_1, exN_2, exN_3, exN_4, exN_5, Ex]
    rfl
  | r + 1, k, I, B, l4, hk, h => by
    have hb : MW (setI I (35, 0, 0) 3 (bday B + 1) (35, 0, 0)) (dayB B) := mw_scal h (by decide) rfl rfl rfl rfl
    obtain ⟨I1, e1, h1, f1⟩ := nmLoop (d := d) (M := M) (G := G) (p := aI (N n)) (q := aI b) (w := aI (N k)) hR (vn B.1) _ _ hb (Nat.le_refl _)
    obtain ⟨I2, e2, h2, f2⟩ := pmLoop (b := b) hn hR r (k + 1) I1 (ndB B) (some (aI (N 0 - 1))) (by omega) h1
    refine ⟨I2, ?_, h2, ((F35.st F35.rf).tr f1).tr f2⟩
    have e7 : setI I (35, 0, 0) 3 (bday B + 1) (35, 0, 0) 7 = N (vn B.1) := hb.2.2.1
    have em : N 0 - 1 < 0 := by decide
    rw [s257_59]
    simp only [m257, s257_0, s257_1, s257_2, s257_3, s257_5, s257_8, s257_11, s257_12, s257_15, s257_16, s257_19, s257_20, s257_21, s257_22, s257_23, s257_26, s257_29, s257_30, s257_33, s257_34, s257_37, s257_38, s257_41, s257_44, s257_45, s257_46, s257_47, s257_50, s257_51, s257_54, s257_55, s257_56, s257_57, s257_58, s257_60, s257_61, s257_64, s257_65, s257_68, s257_69, s257_70, s257_71, s257_72, s257_73, s257_74, s257_75, s257_78, s257_80, s257_81, s257_82, s257_83, s257_87, s257_90, s257_91, s257_93, s257_94, s257_97, s257_98, s257_101, s257_102, s257_103, s257_106, s257_109, s257_110, s257_112, s257_115, s257_116, s257_119, s257_120, s257_121, s257_122, s257_123, s257_124, s257_125, s257_128, s257_131, s257_134, s257_137, s257_138, s257_141, s257_142, s257_143, s257_144, s257_145, N_ge (show k < n by omega) (show n < 2147483648 by omega), hR.m.1, kn3, cl3, kw3, kn7, cl7, ag35, h.2.1.1, e7, if_false, if_true, ck_v, ck_x, Option.toList, List.cons_append, List.nil_append, kil_nil, N_1, o10, o00, exN_0, exN_1, exN_2, exN_3, exN_4, exN_5, Ex]
    refine e1.trans ?_
    rw [s257_85]
    simp only [m257, s257_0, s257_1, s257_2, s257_3, s257_5, s257_8, s257_11, s257_12, s257_15, s257_16, s257_19, s257_20, s257_21, s257_22, s257_23, s257_26, s257_29, s257_30, s257_33, s257_34, s257_37, s257_38, s257_41, s257_44, s257_45, s257_46, s257_47, s257_50, s257_51, s257_54, s257_55, s257_56, s257_57, s257_58, s257_60, s257_61, s257_64, s257_65, s257_68, s257_69, s257_70, s257_71, s257_72, s257_73, s257_74, s257_75, s257_78, s257_80, s257_81, s257_82, s257_83, s257_87, s257_90, s257_91, s257_93, s257_94, s257_97, s257_98, s257_101, s257_102, s257_103, s257_106, s257_109, s257_110, s257_112, s257_115, s257_116, s257_119, s257_120, s257_121, s257_122, s257_123, s257_124, s257_125, s257_128, s257_131, s257_134, s257_137, s257_138, s257_141, s257_142, s257_143, s257_144, s257_145, if_pos em, if_false, if_true, ck_v, ck_x, Option.toList, List.cons_append, List.nil_append, kil_nil, N_1, o10, o00, exN_0, exN_1, exN_2, exN_3, exN_4, exN_5, Ex]
    exact e2
theorem MR.pass {n : Nat} (hR : RF R) (h : MR I B hs sn) (h1 : 1 ≤ n ∧ n ≤ 99) (h2 : bday B + N n ≤ 999) : ∃ I', evm (d + 3) 257 [aR (12, 0, 0), aI (N n)] (I, M, R, G) = some (.inl (some (aI (bexp (ndN n B) - bexp B))), (I', M, R, G)) ∧ I' (12, 0, 0) 7 = 0 ∧ MR I' (ndN n B) (kph B hs) sn ∧ FM I I' := by
  obtain ⟨I1, k1, k2, k3, k4⟩ := MR.keep (d := d) (M := M) (G := G) hR (h.th (x := 0))
  obtain ⟨I2, e2, h2', f2⟩ := pmLoop (d := d) (M := M) (G := G) (n := n) (b := bexp B) (by omega) hR n 0 I1 B none (by omega) k2.1
  have hg : rg (N n) 1 99 := ⟨by
    show ¬ N n < N 1
    rw [N_lt (by omega) (by omega)]; omega, by
    show ¬ N 99 < N n
    rw [N_lt (by omega) (by omega)]; omega⟩
  refine ⟨I2, ?_, ?_, k2.mod f2 h2', (thr_fm.tr (keep_fm k3)).tr (F35.fm f2)⟩
  · rw [m257]
    simp only [s257_0, s257_1, s257_2, s257_3, s257_5, s257_8, s257_11, s257_12, s257_15, s257_16, s257_19, s257_20, s257_21, s257_22, s257_23, s257_26, s257_29, s257_30, s257_33, s257_34, s257_37, s257_38, s257_41, s257_44, s257_45, s257_46, s257_47, s257_50, s257_51, s257_54, s257_55, s257_56, s257_57, s257_58, in_ok, if_pos hg, hR.m.1, kn3, cl3, ag35, h.1.2.1.1, if_pos h2, ite_le, l00, t77, k1, kn5, cl5, k2.1.2.1.2.2.1, if_false, if_true, ck_v, ck_x, Option.toList, List.cons_append, List.nil_append, kil_nil, N_1, o10, o00, exN_0, exN_1, exN_2, exN_3, exN_4, exN_5, Ex]
    exact e2
  · rw [f2 _ (by simp), k4 7 (by decide), thr_at]
theorem passM_no1 {days : Int32} (h : ¬ rg days 1 99) : evm (d + 3) 257 [aR (12, 0, 0), aI days] (I, M, R, G) = some (.inl (some (aI 0)), (thr I 1, M, R, G)) := by
  rw [m257]
  simp only [s257_0, s257_1, s257_2, s257_3, s257_5, s257_8, s257_11, s257_12, s257_15, s257_16, s257_19, s257_20, s257_21, s257_22, s257_23, s257_26, s257_29, s257_30, s257_33, s257_34, s257_37, s257_38, s257_41, s257_44, s257_45, s257_46, s257_47, s257_50, s257_51, s257_54, s257_55, s257_56, s257_57, s257_58, in_ok, if_neg h, ite_le, o01, t77, if_false, if_true, ck_v, ck_x, Option.toList, List.cons_append, List.nil_append, kil_nil, N_1, o10, o00, exN_0, exN_1, exN_2, exN_3, exN_4, exN_5, Ex]
theorem MR.pass_no2 {days : Int32} (hR : RF R) (h : MR I B hs sn) (h1 : rg days 1 99) (h2 : ¬ bday B + days ≤ 999) : evm (d + 3) 257 [aR (12, 0, 0), aI days] (I, M, R, G) = some (.inl (some (aI 0)), (thr I 2, M, R, G)) := by
  rw [m257]
  simp only [s257_0, s257_1, s257_2, s257_3, s257_5, s257_8, s257_11, s257_12, s257_15, s257_16, s257_19, s257_20, s257_21, s257_22, s257_23, s257_26, s257_29, s257_30, s257_33, s257_34, s257_37, s257_38, s257_41, s257_44, s257_45, s257_46, s257_47, s257_50, s257_51, s257_54, s257_55, s257_56, s257_57, s257_58, in_ok, if_pos h1, hR.m.1, kn3, cl3, ag35, h.1.2.1.1, if_neg h2, ite_le, o02, t77, if_false, if_true, ck_v, ck_x, Option.toList, List.cons_append, List.nil_append, kil_nil, N_1, o10, o00, exN_0, exN_1, exN_2, exN_3, exN_4, exN_5, Ex]
theorem cnf_N {V : Vw} {x y c : Int32} : ∃ s, s ≤ vn V ∧ cnf V x y c = N s := by
  obtain ⟨w, h1, h2⟩ := sm_N (g := cnf1 V x y c) (m := 1) (n := vn V) (fun k _ => by
    unfold cnf1
    split
    · exact ⟨1, Nat.le_refl _, rfl⟩
    · exact ⟨0, by decide, rfl⟩)
  exact ⟨w, by omega, h2⟩
theorem cnf_0 {V : Vw} {x y c : Int32} (h7 : vn V ≤ 7) : (cnf V x y c ≤ 0) = (cnf V x y c = 0) := by
  obtain ⟨s, h1, h2⟩ := cnf_N (V := V) (x := x) (y := y) (c := c)
  rw [h2]
  show (N s ≤ N 0) = (N s = N 0)
  rw [N_le (by omega) (by omega), N_inj (by omega) (by omega)]
  exact propext (by omega)
theorem stLoop {x y days : Int32} {r : Option Out} (hR : RF R) (hV : MV I V) (hr : ev (evm (d + 4)) 250 115 [some (aR (12, 0, 0)), some (aI x), some (aI y), some (aI days), some (aI (och (qfv V x y 8))), some (aI 8)] [] [] (I, M, R, G) = r) : ev (evm (d + 4)) 250 58 [some (aR (12, 0, 0)), some (aI x), some (aI y), some (aI days), some (aI (-1)), some (aI 0)] [] [] (I, M, R, G) = r := by
  have h7 := hV.2.2.1
  have hs : ∀ k, k < 8 → ev (evm (d + 4)) 250 58 [some (aR (12, 0, 0)), some (aI x), some (aI y), some (aI days), some (aI (och (qfv V x y k))), some (aI (N k))] [] [] (I, M, R, G) = ev (evm (d + 4)) 250 58 [some (aR (12, 0, 0)), some (aI x), some (aI y), some (aI days), some (aI (och (qfv V x y (k + 1)))), some (aI (N (k + 1)))] [] [] (I, M, R, G) := by
    intro k hk
    have e8 : ((8 : Int32) ≤ N k) = False := N_ge (a := k) (b := 8) hk (by decide)
    rw [s250_58]
    by_cases h1 : cnf V x y (N k) = 0
    · cases hq : qfv V x y k with
      | none =>
        have e : qfv V x y (k + 1) = some k := by
          unfold qfv at hq ⊢
          unfold bestf
          rw [hq]
          simp [h1]
        rw [e]
        show ev _ 250 60 [_, _, _, _, some (aI (-1)), _] [] _ _ = _
        simp only [m250, s250_0, s250_1, s250_2, s250_3, s250_6, s250_9, s250_10, s250_11, s250_13, s250_16, s250_19, s250_20, s250_23, s250_24, s250_27, s250_29, s250_30, s250_32, s250_35, s250_36, s250_39, s250_40, s250_43, s250_44, s250_47, s250_50, s250_51, s250_52, s250_53, s250_55, s250_56, s250_60, s250_62, s250_65, s250_66, s250_67, s250_68, s250_70, s250_73, s250_76, s250_79, s250_81, s250_84, s250_85, s250_86, s250_87, s250_89, s250_90, s250_93, s250_94, s250_95, s250_96, s250_98, s250_99, s250_102, s250_105, s250_107, s250_109, s250_112, s250_115, s250_116, s250_118, s250_121, s250_122, s250_125, s250_126, s250_129, s250_130, s250_133, s250_136, s250_137, s250_138, s250_139, s250_142, s250_143, s250_144, s250_145, s250_147, s250_148, s250_149, s250_152, e8, conflictsFor_ok hR hV, cnf_0 h7, h1, m1n, if_false, if_true, ck_v, ck_x, Option.toList, List.cons_append, List.nil_append, kil_nil, N_1, o10, o00, exN_0, exN_1, exN_2, exN_3, exN_4, exN_5, Ex]
        rfl
      | some b =>
        have hb8 : b < k := (bestf_lt (show bestf _ _ k = some b from hq)).1
        have e : qfv V x y (k + 1) = if dst V x y (N k) (-1) < dst V x y (N b) (-1) then some k else some b := by
          unfold qfv at hq ⊢
          unfold bestf
          rw [hq]
          by_cases h2 : dst V x y (N k) (-1) < dst V x y (N b) (-1) <;> simp [h1, h2]
        rw [e]
        show ev _ 250 60 [_, _, _, _, some (aI (N b)), _] [] _ _ = _
        by_cases h2 : dst V x y (N k) (-1) < dst V x y (N b) (-1)
        · rw [if_pos h2]
          simp only [m250, s250_0, s250_1, s250_2, s250_3, s250_6, s250_9, s250_10, s250_11, s250_13, s250_16, s250_19, s250_20, s250_23, s250_24, s250_27, s250_29, s250_30, s250_32, s250_35, s250_36, s250_39, s250_40, s250_43, s250_44, s250_47, s250_50, s250_51, s250_52, s250_53, s250_55, s250_56, s250_60, s250_62, s250_65, s250_66, s250_67, s250_68, s250_70, s250_73, s250_76, s250_79, s250_81, s250_84, s250_85, s250_86, s250_87, s250_89, s250_90, s250_93, s250_94, s250_95, s250_96, s250_98, s250_99, s250_102, s250_105, s250_107, s250_109, s250_112, s250_115, s250_116, s250_118, s250_121, s250_122, s250_125, s250_126, s250_129, s250_130, s250_133, s250_136, s250_137, s250_138, s250_139, s250_142, s250_143, s250_144, s250_145, s250_147, s250_148, s250_149, s250_152, e8, conflictsFor_ok hR hV, cnf_0 h7, h1, N_neg (show b < 2147483648 by omega), disturbanceM_ok hR hV, ite_le, if_pos h2, if_false, if_true, ck_v, ck_x, Option.toList, List.cons_append, List.nil_append, kil_nil, N_1, o10, o00, exN_0, exN_1, exN_2, exN_3, exN_4, exN_5, Ex]
          rfl
        · rw [if_neg h2]
          simp only [m250, s250_0, s250_1, s250_2, s250_3, s250_6, s250_9, s250_10, s250_11, s250_13, s250_16, s250_19, s250_20, s250_23, s250_24, s250_27, s250_29, s250_30, s250_32, s250_35, s250_36, s250_39, s250_40, s250_43, s250_44, s250_47, s250_50, s250_51, s250_52, s250_53, s250_55, s250_56, s250_60, s250_62, s250_65, s250_66, s250_67, s250_68, s250_70, s250_73, s250_76, s250_79, s250_81, s250_84, s250_85, s250_86, s250_87, s250_89, s250_90, s250_93, s250_94, s250_95, s250_96, s250_98, s250_99, s250_102, s250_105, s250_107, s250_109, s250_112, s250_115, s250_116, s250_118, s250_121, s250_122, s250_125, s250_126, s250_129, s250_130, s250_133, s250_136, s250_137, s250_138, s250_139, s250_142, s250_143, s250_144, s250_145, s250_147, s250_148, s250_149, s250_152, e8, conflictsFor_ok hR hV, cnf_0 h7, h1, N_neg (show b < 2147483648 by omega), disturbanceM_ok hR hV, ite_le, if_neg h2, if_false, if_true, ck_v, ck_x, Option.toList, List.cons_append, List.nil_append, kil_nil, N_1, o10, o00, exN_0, exN_1, exN_2, exN_3, exN_4, exN_5, Ex]
          rfl
    · have e : qfv V x y (k + 1) = qfv V x y k := by
        unfold qfv
        rw [bestf]
        simp [h1]
      rw [e]
      simp only [m250, s250_0, s250_1, s250_2, s250_3, s250_6, s250_9, s250_10, s250_11, s250_13, s250_16, s250_19, s250_20, s250_23, s250_24, s250_27, s250_29, s250_30, s250_32, s250_35, s250_36, s250_39, s250_40, s250_43, s250_44, s250_47, s250_50, s250_51, s250_52, s250_53, s250_55, s250_56, s250_60, s250_62, s250_65, s250_66, s250_67, s250_68, s250_70, s250_73, s250_76, s250_79, s250_81, s250_84, s250_85, s250_86, s250_87, s250_89, s250_90, s250_93, s250_94, s250_95, s250_96, s250_98, s250_99, s250_102, s250_105, s250_107, s250_109, s250_112, s250_115, s250_116, s250_118, s250_121, s250_122, s250_125, s250_126, s250_129, s250_130, s250_133, s250_136, s250_137, s250_138, s250_139, s250_142, s250_143, s250_144, s250_145, s250_147, s250_148, s250_149, s250_152, e8, conflictsFor_ok hR hV, cnf_0 h7, h1, if_false, if_true, ck_v, ck_x, Option.toList, List.cons_append, List.nil_append, kil_nil, N_1, o10, o00, exN_0, exN_1, exN_2, exN_3, exN_4, exN_5, Ex]
  refine ((iter (f := fun k => ev (evm (d + 4)) 250 58 [some (aR (12, 0, 0)), some (aI x), some (aI y), some (aI days), some (aI (och (qfv V x y k))), some (aI (N k))] [] [] (I, M, R, G)) hs).trans ?_).trans hr
  have e8 : ((8 : Int32) ≤ N 8) = True := N_ge1 (a := 8) (b := 8) (Nat.le_refl _) (by decide)
  rw [s250_58]
  simp only [s250_60, s250_62, e8, if_true]
  rfl
theorem MR.startTrial {x y days : Int32} {c : Nat} (hR : RF R) (h : MR I B hs sn) (h1 : rg x 0 99 ∧ rg y 0 99) (h2 : rg days 1 30) (h3 : vn B.1 < 7) (hq : qfv B.1 x y 8 = some c) : ∃ I', evm (d + 5) 250 [aR (12, 0, 0), aI x, aI y, aI days] (I, M, R, G) = some (.inl (some (aI (bnext B))), (I', M, R, G)) ∧ I' (12, 0, 0) 7 = 0 ∧ MR I' (addB B x y (N c) (bday B + days) false) (kph B hs) sn ∧ FM I I' := by
  have hV0 : MV (thr I 0) B.1 := h.1.mv.thr
  obtain ⟨I1, k1, k2, k3, k4⟩ := MR.keep (d := d + 2) (M := M) (G := G) hR ((h.th (x := 0)).th (x := 0))
  obtain ⟨I2, a1, a2, a3⟩ := adds_ok (d := d + 2) (M := M) (G := G) (x := x) (y := y) (c := N c) (days := days) (l := 0) hR k2.1 h3 (Or.inl rfl)
  have hc8 : c < 8 := (bestf_lt (show bestf _ _ 8 = some c from hq)).1
  refine ⟨I2, ?_, ?_, k2.mod a3 a2, ((thr_fm.tr thr_fm).tr (keep_fm k3)).tr (F35.fm a3)⟩
  · rw [m250]
    have e7 : (N (vn B.1) = 7) = False := by
      have : (N (vn B.1) = N 7) = (vn B.1 = 7) := N_inj (by omega) (by decide)
      rw [show (7 : Int32) = N 7 from rfl, this]
      exact eq_false (by omega)
    simp only [s250_0, s250_1, s250_2, s250_3, s250_6, s250_9, s250_10, s250_11, s250_13, s250_16, s250_19, s250_20, s250_23, s250_24, s250_27, s250_29, s250_30, s250_32, s250_35, s250_36, s250_39, s250_40, s250_43, s250_44, s250_47, s250_50, s250_51, s250_52, s250_53, s250_55, s250_56, isPoint_ok, if_pos h1, in_ok, if_pos h2, hR.m.1, kn7, cl7, ag35, h.1.2.2.1, e7, ite_le, l00, t77, if_false, if_true, ck_v, ck_x, Option.toList, List.cons_append, List.nil_append, kil_nil, N_1, o10, o00, exN_0, exN_1, exN_2, exN_3, exN_4, exN_5, Ex]
    refine stLoop hR hV0 ?_
    rw [hq]
    show ev _ 250 115 [_, _, _, _, some (aI (N c)), _] [] _ _ = _
    simp only [m250, s250_0, s250_1, s250_2, s250_3, s250_6, s250_9, s250_10, s250_11, s250_13, s250_16, s250_19, s250_20, s250_23, s250_24, s250_27, s250_29, s250_30, s250_32, s250_35, s250_36, s250_39, s250_40, s250_43, s250_44, s250_47, s250_50, s250_51, s250_52, s250_53, s250_55, s250_56, s250_60, s250_62, s250_65, s250_66, s250_67, s250_68, s250_70, s250_73, s250_76, s250_79, s250_81, s250_84, s250_85, s250_86, s250_87, s250_89, s250_90, s250_93, s250_94, s250_95, s250_96, s250_98, s250_99, s250_102, s250_105, s250_107, s250_109, s250_112, s250_115, s250_116, s250_118, s250_121, s250_122, s250_125, s250_126, s250_129, s250_130, s250_133, s250_136, s250_137, s250_138, s250_139, s250_142, s250_143, s250_144, s250_145, s250_147, s250_148, s250_149, s250_152, ite_le, N_neg (show c < 2147483648 by omega), t77, l00, k1, a1, if_false, if_true, ck_v, ck_x, Option.toList, List.cons_append, List.nil_append, kil_nil, N_1, o10, o00, exN_0, exN_1, exN_2, exN_3, exN_4, exN_5, Ex]
  · rw [a3 _ (by simp), k4 7 (by decide), thr_at]
theorem startTrialM_no1 {x y days : Int32} (h : ¬ ((rg x 0 99 ∧ rg y 0 99) ∧ rg days 1 30)) : evm (d + 5) 250 [aR (12, 0, 0), aI x, aI y, aI days] (I, M, R, G) = some (.inl (some (aI 0)), (thr I 1, M, R, G)) := by
  rw [m250]
  by_cases h1 : rg x 0 99 ∧ rg y 0 99
  · have h2 : ¬ rg days 1 30 := fun q => h ⟨h1, q⟩
    simp only [s250_0, s250_1, s250_2, s250_3, s250_6, s250_9, s250_10, s250_11, s250_13, s250_16, s250_19, s250_20, s250_23, s250_24, s250_27, s250_29, s250_30, s250_32, s250_35, s250_36, s250_39, s250_40, s250_43, s250_44, s250_47, s250_50, s250_51, s250_52, s250_53, s250_55, s250_56, isPoint_ok, if_pos h1, in_ok, if_neg h2, ite_le, o01, t77, if_false, if_true, ck_v, ck_x, Option.toList, List.cons_append, List.nil_append, kil_nil, N_1, o10, o00, exN_0, exN_1, exN_2, exN_3, exN_4, exN_5, Ex]
  · simp only [s250_0, s250_1, s250_2, s250_3, s250_6, s250_9, s250_10, s250_11, s250_13, s250_16, s250_19, s250_20, s250_23, s250_24, s250_27, s250_29, s250_30, s250_32, s250_35, s250_36, s250_39, s250_40, s250_43, s250_44, s250_47, s250_50, s250_51, s250_52, s250_53, s250_55, s250_56, isPoint_ok, if_neg h1, ite_le, o01, t77, if_false, if_true, ck_v, ck_x, Option.toList, List.cons_append, List.nil_append, kil_nil, N_1, o10, o00, exN_0, exN_1, exN_2, exN_3, exN_4, exN_5, Ex]
theorem MR.startTrial_no2 {x y days : Int32} (hR : RF R) (h : MR I B hs sn) (h1 : rg x 0 99 ∧ rg y 0 99) (h2 : rg days 1 30) (h3 : ¬ vn B.1 < 7) : evm (d + 5) 250 [aR (12, 0, 0), aI x, aI y, aI days] (I, M, R, G) = some (.inl (some (aI 0)), (thr I 2, M, R, G)) := by
  have h7 := h.1.2.2.2.1
  have e7 : (N (vn B.1) = 7) = True := by
    rw [show vn B.1 = 7 by omega]
    exact eq_true rfl
  rw [m250]
  simp only [s250_0, s250_1, s250_2, s250_3, s250_6, s250_9, s250_10, s250_11, s250_13, s250_16, s250_19, s250_20, s250_23, s250_24, s250_27, s250_29, s250_30, s250_32, s250_35, s250_36, s250_39, s250_40, s250_43, s250_44, s250_47, s250_50, s250_51, s250_52, s250_53, s250_55, s250_56, isPoint_ok, if_pos h1, in_ok, if_pos h2, hR.m.1, kn7, cl7, ag35, h.1.2.2.1, e7, ite_le, o02, t77, if_false, if_true, ck_v, ck_x, Option.toList, List.cons_append, List.nil_append, kil_nil, N_1, o10, o00, exN_0, exN_1, exN_2, exN_3, exN_4, exN_5, Ex]
theorem MR.startTrial_no3 {x y days : Int32} (hR : RF R) (h : MR I B hs sn) (h1 : rg x 0 99 ∧ rg y 0 99) (h2 : rg days 1 30) (h3 : vn B.1 < 7) (hq : qfv B.1 x y 8 = none) : evm (d + 5) 250 [aR (12, 0, 0), aI x, aI y, aI days] (I, M, R, G) = some (.inl (some (aI 0)), (thr I 3, M, R, G)) := by
  have hV0 : MV (thr I 0) B.1 := h.1.mv.thr
  rw [m250]
  have e7 : (N (vn B.1) = 7) = False := by
    have : (N (vn B.1) = N 7) = (vn B.1 = 7) := N_inj (by omega) (by decide)
    rw [show (7 : Int32) = N 7 from rfl, this]
    exact eq_false (by omega)
  simp only [s250_0, s250_1, s250_2, s250_3, s250_6, s250_9, s250_10, s250_11, s250_13, s250_16, s250_19, s250_20, s250_23, s250_24, s250_27, s250_29, s250_30, s250_32, s250_35, s250_36, s250_39, s250_40, s250_43, s250_44, s250_47, s250_50, s250_51, s250_52, s250_53, s250_55, s250_56, isPoint_ok, if_pos h1, in_ok, if_pos h2, hR.m.1, kn7, cl7, ag35, h.1.2.2.1, e7, ite_le, l00, t77, if_false, if_true, ck_v, ck_x, Option.toList, List.cons_append, List.nil_append, kil_nil, N_1, o10, o00, exN_0, exN_1, exN_2, exN_3, exN_4, exN_5, Ex]
  refine stLoop hR hV0 ?_
  rw [hq]
  show ev _ 250 115 [_, _, _, _, some (aI (-1)), _] [] _ _ = _
  simp only [m250, s250_0, s250_1, s250_2, s250_3, s250_6, s250_9, s250_10, s250_11, s250_13, s250_16, s250_19, s250_20, s250_23, s250_24, s250_27, s250_29, s250_30, s250_32, s250_35, s250_36, s250_39, s250_40, s250_43, s250_44, s250_47, s250_50, s250_51, s250_52, s250_53, s250_55, s250_56, s250_60, s250_62, s250_65, s250_66, s250_67, s250_68, s250_70, s250_73, s250_76, s250_79, s250_81, s250_84, s250_85, s250_86, s250_87, s250_89, s250_90, s250_93, s250_94, s250_95, s250_96, s250_98, s250_99, s250_102, s250_105, s250_107, s250_109, s250_112, s250_115, s250_116, s250_118, s250_121, s250_122, s250_125, s250_126, s250_129, s250_130, s250_133, s250_136, s250_137, s250_138, s250_139, s250_142, s250_143, s250_144, s250_145, s250_147, s250_148, s250_149, s250_152, ite_le, m1n, t77, o03, if_false, if_true, ck_v, ck_x, Option.toList, List.cons_append, List.nil_append, kil_nil, N_1, o10, o00, exN_0, exN_1, exN_2, exN_3, exN_4, exN_5, Ex]
  rw [show setI (thr I 0) (12, 0, 0) 7 3 = thr I 3 from thr_thr]
end MOPS
