/-! THE METHODS' MEANING: the model upholds a complaint -/
section MCPL
variable {d : Nat} {I I' I'' : OId → Nat → Int32} {M R : OId → Nat → AV} {G : SG} {V : Vw} {q : Qy} {B : Bk} {hs : List Bk} {sn : Option Bk}
theorem lc_f35 {i k : Nat} {v : Int32} : F35 I (lcI I i k v) := fun o ho => lcI_ne ho
theorem MR.back {i k : Nat} {v : Int32} (h : MR I (cmpB B i k v) hs sn) (hi : i < vn B.1) (hk : k < vn B.1) (hs' : vc B.1 i k = vc B.1 k i) : MR (lcI I i k (vc B.1 i k)) B hs sn := by
  have h2 := MR.lc (v := vc B.1 i k) h hi hk
  exact ⟨cmp_back hs' h2.1, h2.2⟩
theorem spm_up {i k : Nat} {v : Int32} : spm (cmpB B i k v).1 i k = bs2 B.1 k i + v := by
  show bs2 B.1 k i + (if i = i ∧ k = k ∨ i = k ∧ k = i then v else vc B.1 i k) = _
  rw [if_pos (Or.inl ⟨rfl, rfl⟩)]
theorem cpl_b {a b : Nat} (h : cplT B.1 a b) : ¬ bs2 B.1 b a = 0 := by rw [bs2_c]; exact h.2.2.1
theorem MR.complain_free {id other : Int32} (hR : RF R) (h : MR I B hs sn) (hW : WV B.1) (h1 : prT B.1 id other = 0) (h2 : cplT B.1 (fid B.1 id) (fid B.1 other)) (h3 : ¬ cplC B.1 (fid B.1 id) (fid B.1 other)) : ∃ I', evm (d + 12) 293 [aR (12, 0, 0), aI id, aI other] (I, M, R, G) = some (.inl (some (aI 0)), (I', M, R, G)) ∧ I' (12, 0, 0) 7 = 0 ∧ MR I' (cmpB B (fid B.1 id) (fid B.1 other) (vc B.1 (fid B.1 id) (fid B.1 other) + 1)) (kph B hs) sn ∧ FM I I' := by
  obtain ⟨ga, gb, -⟩ := prT_0 h1
  have h7 := h.1.2.2.2.1
  have hV0 := h.1.mv.thr (x := 0)
  have tt : setI (thr I 0) (12, 0, 0) 7 0 = thr I 0 := thr_thr
  have l1 : licv B.1 (fid B.1 id) = 1 := if_pos h2.1
  have l2 : licv B.1 (fid B.1 other) = 1 := if_pos h2.2.1
  have b3 := cpl_b h2
  have b4 : ¬ vc B.1 (fid B.1 id) (fid B.1 other) = 2 := h2.2.2.2
  have sym := (hW.2.2.2.1 _ _ ga gb).2
  have m1 := MR.lc (v := vc B.1 (fid B.1 id) (fid B.1 other) + 1) (h.th (x := 0)) ga gb
  have c1 := conflict_ok (d := d + 5) (M := M) (G := G) hR m1.1.mv ga gb
  have e9 : (ab (vf B.1 (fid B.1 id) 3 - vf B.1 (fid B.1 other) 3) < spm (cmpB B (fid B.1 id) (fid B.1 other) (vc B.1 (fid B.1 id) (fid B.1 other) + 1)).1 (fid B.1 id) (fid B.1 other)) = False := by
    rw [spm_up, bs2_c]; exact eq_false h3
  have c1' : evm (d + 11) 248 [aR (12, 0, 0), aI (N (fid B.1 id)), aI (N (fid B.1 other))] (lcI (thr I 0) (fid B.1 id) (fid B.1 other) (vc B.1 (fid B.1 id) (fid B.1 other) + 1), M, R, G) = some (.inl (some (aI 0)), (lcI (thr I 0) (fid B.1 id) (fid B.1 other) (vc B.1 (fid B.1 id) (fid B.1 other) + 1), M, R, G)) := by
    refine c1.trans ?_
    rw [if_neg (by exact of_eq_false e9)]
  have m2 := m1.back ga gb sym
  obtain ⟨I3, e3, m3, f3, k3⟩ := MR.keep (d := d + 9) (M := M) (G := G) hR (m2.th (x := 0))
  have m4 := MR.lc (v := vc B.1 (fid B.1 id) (fid B.1 other) + 1) m3 ga gb
  refine ⟨_, ?_, ?_, m4, (((thr_fm.tr ((F35.tr lc_f35 lc_f35).fm)).tr thr_fm).tr (keep_fm f3)).tr lc_f35.fm⟩
  · simp only [m293, s293_0, s293_1, s293_2, s293_3, s293_6, s293_9, s293_10, s293_11, s293_12, s293_13, s293_16, s293_17, s293_18, s293_19, s293_22, s293_24, s293_25, s293_26, s293_28, s293_31, s293_33, s293_34, s293_35, s293_36, s293_39, s293_42, s293_43, s293_45, s293_48, s293_51, s293_52, s293_53, s293_55, s293_58, s293_61, s293_63, s293_64, s293_67, s293_68, s293_71, s293_72, s293_75, s293_76, s293_79, s293_82, s293_83, s293_84, s293_85, s293_86, s293_88, s293_90, s293_91, s293_92, s293_95, s293_96, s293_97, s293_99, s293_102, s293_105, s293_106, s293_108, s293_109, s293_110, s293_113, s293_116, s293_117, s293_119, s293_120, s293_121, s293_123, s293_126, s293_128, s293_129, s293_130, s293_132, s293_134, s293_137, s293_138, s293_140, s293_143, s293_144, s293_147, s293_148, s293_151, s293_152, s293_155, s293_158, s293_159, s293_160, s293_161, s293_164, s293_165, s293_166, s293_168, s293_170, s293_171, s293_172, s293_175, s293_177, s293_180, s293_181, s293_182, s293_183, s293_185, s293_187, s293_190, s293_192, s293_193, s293_194, isPair_ok hR h.1.mv, h1, slotOf_f hR hV0, plc_p ga, plc_p gb, complaints_ok hR hV0 ga gb, isLicensed_ok hR hV0 ga, isLicensed_ok hR hV0 gb, l1, l2, baseOf_ok hR hV0 ga gb, b3, b4, t77, ite_le, l00, tt, laysC_ok hR (show fid B.1 id < 7 by omega) (show fid B.1 other < 7 by omega), c1', e3, if_false, if_true, ck_v, ck_x, Option.toList, List.cons_append, List.nil_append, kil_nil, N_1, o10, o00, exN_0, exN_1, exN_2, exN_3, exN_4, exN_5, Ex]
  · rw [lcI_ne (by simp), k3 7 (by decide), thr_at]
theorem MR.complain_plan {id other : Int32} {r : Pln} {p : Nat → Int32} {B1 : Bk} (hR : RF R) (h : MR I B hs sn) (hW : WV B.1) (h1 : prT B.1 id other = 0) (h2 : cplT B.1 (fid B.1 id) (fid B.1 other)) (h3 : cplC B.1 (fid B.1 id) (fid B.1 other)) (hB1 : B1 = cmpB B (fid B.1 id) (fid B.1 other) (vc B.1 (fid B.1 id) (fid B.1 other) + 1)) (hp : planF (qsl B1.1 (fid B.1 other) none (some (fid B.1 id))) B1.1 = some r) (hpr : PR B1.1 r.1 p) (hW1 : WV (fdB (mvB B1 r.1) (fid B.1 other) 3 (N r.2)).1) : ∃ I', evm (d + 12) 293 [aR (12, 0, 0), aI id, aI other] (I, M, R, G) = some (.inl (some (aI (N (r.1.length + 1)))), (I', M, R, G)) ∧ I' (12, 0, 0) 7 = 0 ∧ MR I' (etL (vn B.1) (planB (fdB (mvB B1 r.1) (fid B.1 other) 3 (N r.2)) (N r.1.length) p)) (kph B hs) sn ∧ FM I I' := by
  obtain ⟨ga, gb, -⟩ := prT_0 h1
  have h7 := h.1.2.2.2.1
  have hV0 := h.1.mv.thr (x := 0)
  have tt : setI (thr I 0) (12, 0, 0) 7 0 = thr I 0 := thr_thr
  have l1 : licv B.1 (fid B.1 id) = 1 := if_pos h2.1
  have l2 : licv B.1 (fid B.1 other) = 1 := if_pos h2.2.1
  have b3 := cpl_b h2
  have b4 : ¬ vc B.1 (fid B.1 id) (fid B.1 other) = 2 := h2.2.2.2
  have sym := (hW.2.2.2.1 _ _ ga gb).2
  have m1 := MR.lc (v := vc B.1 (fid B.1 id) (fid B.1 other) + 1) (h.th (x := 0)) ga gb
  rw [← hB1] at m1
  have ga1 : fid B.1 id < vn B1.1 := by rw [hB1]; exact ga
  have gb1 : fid B.1 other < vn B1.1 := by rw [hB1]; exact gb
  have e9 : ab (vf B1.1 (fid B.1 id) 3 - vf B1.1 (fid B.1 other) 3) < spm B1.1 (fid B.1 id) (fid B.1 other) := by
    rw [hB1, spm_up, bs2_c]; exact h3
  have hq := planSlot_ok (d := d) (M := M) (G := G) hR m1.1.mv gb1 (qb_c gb1 ga1)
  rw [hp] at hq
  obtain ⟨I1, e1, f1, c0, c1⟩ := hq
  have hlen := planF_len hp
  have e1' : evm (d + 11) 289 [aR (12, 0, 0), aI (N (fid B.1 other)), aI (-1), aI (N (fid B.1 id))] (lcI (thr I 0) (fid B.1 id) (fid B.1 other) (vc B.1 (fid B.1 id) (fid B.1 other) + 1), M, R, G) = some (.inl (some (aI (N r.1.length))), (I1, M, R, G)) := e1
  have m2 := m1.pf f1
  have q1 : evm (d + 11) 248 [aR (12, 0, 0), aI (N (fid B.1 id)), aI (N (fid B.1 other))] (lcI (thr I 0) (fid B.1 id) (fid B.1 other) (vc B.1 (fid B.1 id) (fid B.1 other) + 1), M, R, G) = some (.inl (some (aI 1)), (lcI (thr I 0) (fid B.1 id) (fid B.1 other) (vc B.1 (fid B.1 id) (fid B.1 other) + 1), M, R, G)) := (conflict_ok (d := d + 5) (M := M) (G := G) hR m1.1.mv ga1 gb1).trans (by rw [if_pos e9])
  have q2 : evm (d + 11) 248 [aR (12, 0, 0), aI (N (fid B.1 id)), aI (N (fid B.1 other))] (I1, M, R, G) = some (.inl (some (aI 1)), (I1, M, R, G)) := (conflict_ok (d := d + 5) (M := M) (G := G) hR m2.1.mv ga1 gb1).trans (by rw [if_pos e9])
  have m2' : MR I1 (cmpB B (fid B.1 id) (fid B.1 other) (vc B.1 (fid B.1 id) (fid B.1 other) + 1)) hs sn := hB1 ▸ m2
  have m3 := (m2'.back ga gb sym).th (x := 0)
  obtain ⟨I3, e3, m4, f3, k3⟩ := MR.keep (d := d + 9) (M := M) (G := G) hR m3
  have m5 := MR.lc (v := vc B.1 (fid B.1 id) (fid B.1 other) + 1) m4 ga gb
  rw [← hB1] at m5
  have h14 : lcI I3 (fid B.1 id) (fid B.1 other) (vc B.1 (fid B.1 id) (fid B.1 other) + 1) (12, 0, 0) 14 = N r.2 := by
    rw [lcI_ne (by simp), k3 14 (by decide), thr_o (by decide), lcI_ne (by simp)]; exact c0
  obtain ⟨I6, e6, w6, f6⟩ := carries_ok (d := d + 2) (M := M) (G := G) (ms := r.1) (p := p) hR (by omega) m5.1 hpr (fun i k e he => by
    obtain ⟨b1, b2, b3⟩ := c1 i k e he
    rw [lcI_ne (by simp), lcI_ne (by simp), f3 _ (by simp) (by simp), f3 _ (by simp) (by simp), thr_ne (by simp), thr_ne (by simp), lcI_ne (by simp), lcI_ne (by simp)]
    exact ⟨b1, b2, b3⟩) h14 gb1 hW1
  have en : vn B1.1 = vn B.1 := by rw [hB1]; rfl
  rw [en] at w6
  refine ⟨I6, ?_, ?_, m5.mod f6 w6, ((((((thr_fm.tr lc_f35.fm).tr f1.fm).tr lc_f35.fm).tr thr_fm).tr (keep_fm f3)).tr lc_f35.fm).tr (F35.fm f6)⟩
  · simp only [m293, s293_0, s293_1, s293_2, s293_3, s293_6, s293_9, s293_10, s293_11, s293_12, s293_13, s293_16, s293_17, s293_18, s293_19, s293_22, s293_24, s293_25, s293_26, s293_28, s293_31, s293_33, s293_34, s293_35, s293_36, s293_39, s293_42, s293_43, s293_45, s293_48, s293_51, s293_52, s293_53, s293_55, s293_58, s293_61, s293_63, s293_64, s293_67, s293_68, s293_71, s293_72, s293_75, s293_76, s293_79, s293_82, s293_83, s293_84, s293_85, s293_86, s293_88, s293_90, s293_91, s293_92, s293_95, s293_96, s293_97, s293_99, s293_102, s293_105, s293_106, s293_108, s293_109, s293_110, s293_113, s293_116, s293_117, s293_119, s293_120, s293_121, s293_123, s293_126, s293_128, s293_129, s293_130, s293_132, s293_134, s293_137, s293_138, s293_140, s293_143, s293_144, s293_147, s293_148, s293_151, s293_152, s293_155, s293_158, s293_159, s293_160, s293_161, s293_164, s293_165, s293_166, s293_168, s293_170, s293_171, s293_172, s293_175, s293_177, s293_180, s293_181, s293_182, s293_183, s293_185, s293_187, s293_190, s293_192, s293_193, s293_194, isPair_ok hR h.1.mv, h1, slotOf_f hR hV0, plc_p ga, plc_p gb, complaints_ok hR hV0 ga gb, isLicensed_ok hR hV0 ga, isLicensed_ok hR hV0 gb, l1, l2, baseOf_ok hR hV0 ga gb, b3, b4, t77, ite_le, l00, tt, laysC_ok hR (show fid B.1 id < 7 by omega) (show fid B.1 other < 7 by omega), q1, e1', q2, N_neg (show r.1.length < 2147483648 by omega), e3, e6, if_false, if_true, ck_v, ck_x, Option.toList, List.cons_append, List.nil_append, kil_nil, N_1, o10, o00, exN_0, exN_1, exN_2, exN_3, exN_4, exN_5, Ex]
  · rw [f6 _ (by simp), lcI_ne (by simp), k3 7 (by decide), thr_at]
theorem MR.complain_no4 {id other : Int32} {B1 : Bk} (hR : RF R) (h : MR I B hs sn) (hW : WV B.1) (h1 : prT B.1 id other = 0) (h2 : cplT B.1 (fid B.1 id) (fid B.1 other)) (h3 : cplC B.1 (fid B.1 id) (fid B.1 other)) (hB1 : B1 = cmpB B (fid B.1 id) (fid B.1 other) (vc B.1 (fid B.1 id) (fid B.1 other) + 1)) (hp : planF (qsl B1.1 (fid B.1 other) none (some (fid B.1 id))) B1.1 = none) : ∃ I', evm (d + 12) 293 [aR (12, 0, 0), aI id, aI other] (I, M, R, G) = some (.inl (some (aI 0)), (I', M, R, G)) ∧ I' (12, 0, 0) 7 = 4 ∧ MR I' B hs sn ∧ FM I I' := by
  obtain ⟨ga, gb, -⟩ := prT_0 h1
  have h7 := h.1.2.2.2.1
  have hV0 := h.1.mv.thr (x := 0)
  have tt : setI (thr I 0) (12, 0, 0) 7 0 = thr I 0 := thr_thr
  have l1 : licv B.1 (fid B.1 id) = 1 := if_pos h2.1
  have l2 : licv B.1 (fid B.1 other) = 1 := if_pos h2.2.1
  have b3 := cpl_b h2
  have b4 : ¬ vc B.1 (fid B.1 id) (fid B.1 other) = 2 := h2.2.2.2
  have sym := (hW.2.2.2.1 _ _ ga gb).2
  have m1 := MR.lc (v := vc B.1 (fid B.1 id) (fid B.1 other) + 1) (h.th (x := 0)) ga gb
  rw [← hB1] at m1
  have ga1 : fid B.1 id < vn B1.1 := by rw [hB1]; exact ga
  have gb1 : fid B.1 other < vn B1.1 := by rw [hB1]; exact gb
  have e9 : ab (vf B1.1 (fid B.1 id) 3 - vf B1.1 (fid B.1 other) 3) < spm B1.1 (fid B.1 id) (fid B.1 other) := by
    rw [hB1, spm_up, bs2_c]; exact h3
  have hq := planSlot_ok (d := d) (M := M) (G := G) hR m1.1.mv gb1 (qb_c gb1 ga1)
  rw [hp] at hq
  obtain ⟨I1, e1, f1⟩ := hq
  have e1' : evm (d + 11) 289 [aR (12, 0, 0), aI (N (fid B.1 other)), aI (-1), aI (N (fid B.1 id))] (lcI (thr I 0) (fid B.1 id) (fid B.1 other) (vc B.1 (fid B.1 id) (fid B.1 other) + 1), M, R, G) = some (.inl (some (aI (-1))), (I1, M, R, G)) := e1
  have m2 := m1.pf f1
  have q1 : evm (d + 11) 248 [aR (12, 0, 0), aI (N (fid B.1 id)), aI (N (fid B.1 other))] (lcI (thr I 0) (fid B.1 id) (fid B.1 other) (vc B.1 (fid B.1 id) (fid B.1 other) + 1), M, R, G) = some (.inl (some (aI 1)), (lcI (thr I 0) (fid B.1 id) (fid B.1 other) (vc B.1 (fid B.1 id) (fid B.1 other) + 1), M, R, G)) := (conflict_ok (d := d + 5) (M := M) (G := G) hR m1.1.mv ga1 gb1).trans (by rw [if_pos e9])
  have q2 : evm (d + 11) 248 [aR (12, 0, 0), aI (N (fid B.1 id)), aI (N (fid B.1 other))] (I1, M, R, G) = some (.inl (some (aI 1)), (I1, M, R, G)) := (conflict_ok (d := d + 5) (M := M) (G := G) hR m2.1.mv ga1 gb1).trans (by rw [if_pos e9])
  have m2' : MR I1 (cmpB B (fid B.1 id) (fid B.1 other) (vc B.1 (fid B.1 id) (fid B.1 other) + 1)) hs sn := hB1 ▸ m2
  have m3 := (m2'.back ga gb sym).th (x := 4)
  refine ⟨_, ?_, thr_at, m3, (((thr_fm.tr lc_f35.fm).tr f1.fm).tr lc_f35.fm).tr thr_fm⟩
  simp only [m293, s293_0, s293_1, s293_2, s293_3, s293_6, s293_9, s293_10, s293_11, s293_12, s293_13, s293_16, s293_17, s293_18, s293_19, s293_22, s293_24, s293_25, s293_26, s293_28, s293_31, s293_33, s293_34, s293_35, s293_36, s293_39, s293_42, s293_43, s293_45, s293_48, s293_51, s293_52, s293_53, s293_55, s293_58, s293_61, s293_63, s293_64, s293_67, s293_68, s293_71, s293_72, s293_75, s293_76, s293_79, s293_82, s293_83, s293_84, s293_85, s293_86, s293_88, s293_90, s293_91, s293_92, s293_95, s293_96, s293_97, s293_99, s293_102, s293_105, s293_106, s293_108, s293_109, s293_110, s293_113, s293_116, s293_117, s293_119, s293_120, s293_121, s293_123, s293_126, s293_128, s293_129, s293_130, s293_132, s293_134, s293_137, s293_138, s293_140, s293_143, s293_144, s293_147, s293_148, s293_151, s293_152, s293_155, s293_158, s293_159, s293_160, s293_161, s293_164, s293_165, s293_166, s293_168, s293_170, s293_171, s293_172, s293_175, s293_177, s293_180, s293_181, s293_182, s293_183, s293_185, s293_187, s293_190, s293_192, s293_193, s293_194, isPair_ok hR h.1.mv, h1, slotOf_f hR hV0, plc_p ga, plc_p gb, complaints_ok hR hV0 ga gb, isLicensed_ok hR hV0 ga, isLicensed_ok hR hV0 gb, l1, l2, baseOf_ok hR hV0 ga gb, b3, b4, t77, ite_le, l00, tt, laysC_ok hR (show fid B.1 id < 7 by omega) (show fid B.1 other < 7 by omega), q1, e1', q2, m1n, o04, if_false, if_true, ck_v, ck_x, Option.toList, List.cons_append, List.nil_append, kil_nil, N_1, o10, o00, exN_0, exN_1, exN_2, exN_3, exN_4, exN_5, Ex]
end MCPL
