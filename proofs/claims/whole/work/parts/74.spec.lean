/-! THE METHODS' MEANING: the model's change and complain -/
def wcT (V : Vw) (id c : Int32) : Int32 := if fid V id < vn V then (if rg c 0 7 then (if vl V (fid V id) = true then (if vf V (fid V id) 3 = c then 3 else 0) else 3) else 2) else 1
section MCHG
variable {d : Nat} {I I' I'' : OId → Nat → Int32} {M R : OId → Nat → AV} {G : SG} {V : Vw} {q : Qy} {B : Bk} {hs : List Bk} {sn : Option Bk}
theorem wrongChange_ok {id c : Int32} (hR : RF R) (hV : MV I V) : evm (d + 3) 288 [aR (12, 0, 0), aI id, aI c] (I, M, R, G) = some (.inl (some (aI (wcT V id c))), (I, M, R, G)) := by
  have h7 := hV.2.2.1
  unfold wcT
  by_cases h1 : fid V id < vn V
  · rw [if_pos h1]
    by_cases h2 : rg c 0 7
    · rw [if_pos h2]
      by_cases h3 : vl V (fid V id) = true
      · have hl : licv V (fid V id) = 1 := if_pos h3
        rw [if_pos h3]
        by_cases h4 : vf V (fid V id) 3 = c
        · rw [if_pos h4]
          simp only [m288, s288_0, s288_1, s288_2, s288_5, s288_8, s288_9, s288_12, s288_13, s288_14, s288_16, s288_19, s288_22, s288_23, s288_26, s288_27, s288_28, s288_29, s288_32, s288_35, s288_38, s288_39, s288_40, s288_41, s288_44, s288_45, s288_48, s288_49, s288_52, s288_53, s288_56, s288_57, slotOf_f hR hV, plc_p h1, ite_le, N_neg (show fid V id < 2147483648 by omega), in_ok, if_pos h2, isLicensed_ok hR hV h1, hl, fV3 hR hV h1, if_pos h4, if_false, if_true, ck_v, ck_x, Option.toList, List.cons_append, List.nil_append, kil_nil, N_1, o10, o00, exN_0, exN_1, exN_2, exN_3, exN_4, exN_5, Ex]
        · rw [if_neg h4]
          simp only [m288, s288_0, s288_1, s288_2, s288_5, s288_8, s288_9, s288_12, s288_13, s288_14, s288_16, s288_19, s288_22, s288_23, s288_26, s288_27, s288_28, s288_29, s288_32, s288_35, s288_38, s288_39, s288_40, s288_41, s288_44, s288_45, s288_48, s288_49, s288_52, s288_53, s288_56, s288_57, slotOf_f hR hV, plc_p h1, ite_le, N_neg (show fid V id < 2147483648 by omega), in_ok, if_pos h2, isLicensed_ok hR hV h1, hl, fV3 hR hV h1, if_neg h4, if_false, if_true, ck_v, ck_x, Option.toList, List.cons_append, List.nil_append, kil_nil, N_1, o10, o00, exN_0, exN_1, exN_2, exN_3, exN_4, exN_5, Ex]
      · have hl : licv V (fid V id) = 0 := if_neg h3
        rw [if_neg h3]
        simp only [m288, s288_0, s288_1, s288_2, s288_5, s288_8, s288_9, s288_12, s288_13, s288_14, s288_16, s288_19, s288_22, s288_23, s288_26, s288_27, s288_28, s288_29, s288_32, s288_35, s288_38, s288_39, s288_40, s288_41, s288_44, s288_45, s288_48, s288_49, s288_52, s288_53, s288_56, s288_57, slotOf_f hR hV, plc_p h1, ite_le, N_neg (show fid V id < 2147483648 by omega), in_ok, if_pos h2, isLicensed_ok hR hV h1, hl, if_false, if_true, ck_v, ck_x, Option.toList, List.cons_append, List.nil_append, kil_nil, N_1, o10, o00, exN_0, exN_1, exN_2, exN_3, exN_4, exN_5, Ex]
    · rw [if_neg h2]
      simp only [m288, s288_0, s288_1, s288_2, s288_5, s288_8, s288_9, s288_12, s288_13, s288_14, s288_16, s288_19, s288_22, s288_23, s288_26, s288_27, s288_28, s288_29, s288_32, s288_35, s288_38, s288_39, s288_40, s288_41, s288_44, s288_45, s288_48, s288_49, s288_52, s288_53, s288_56, s288_57, slotOf_f hR hV, plc_p h1, ite_le, N_neg (show fid V id < 2147483648 by omega), in_ok, if_neg h2, if_false, if_true, ck_v, ck_x, Option.toList, List.cons_append, List.nil_append, kil_nil, N_1, o10, o00, exN_0, exN_1, exN_2, exN_3, exN_4, exN_5, Ex]
  · rw [if_neg h1]
    simp only [m288, s288_0, s288_1, s288_2, s288_5, s288_8, s288_9, s288_12, s288_13, s288_14, s288_16, s288_19, s288_22, s288_23, s288_26, s288_27, s288_28, s288_29, s288_32, s288_35, s288_38, s288_39, s288_40, s288_41, s288_44, s288_45, s288_48, s288_49, s288_52, s288_53, s288_56, s288_57, slotOf_f hR hV, plc_no h1, ite_le, m1n, if_false, if_true, ck_v, ck_x, Option.toList, List.cons_append, List.nil_append, kil_nil, N_1, o10, o00, exN_0, exN_1, exN_2, exN_3, exN_4, exN_5, Ex]
theorem carries_ok {ms : List (Nat × Nat)} {s c : Nat} {p : Nat → Int32} (hR : RF R) (hn : ms.length ≤ 2) (h : MW (I (35, 0, 0)) B) (hp : PR B.1 ms p) (hm : ∀ i k e, ms[i]? = some (k, e) → k < vn B.1 ∧ I (39, 0, 0) i = N k ∧ I (40, 0, 0) i = N e) (hc : I (12, 0, 0) 14 = N c) (hs : s < vn B.1) (hW : WV (fdB (mvB B ms) s 3 (N c)).1) : ∃ I', evm (d + 9) 292 [aR (12, 0, 0), aI (N s), aI (N ms.length)] (I, M, R, G) = some (.inl none, (I', M, R, G)) ∧ MW (I' (35, 0, 0)) (etL (vn B.1) (planB (fdB (mvB B ms) s 3 (N c)) (N ms.length) p)) ∧ F35 I I' := by
  have h7 := h.2.2.2.1
  obtain ⟨I4, e4, w4, f4⟩ := moves_ok (d := d + 5) (M := M) (G := G) (ms := ms) (p := p) hR hn h hp hm
  have w5 : MW (setI I4 (35, 0, 0) (15 + 6 * s + 3) (N c) (35, 0, 0)) (planB (fdB (mvB B ms) s 3 (N c)) (N ms.length) p) := mw_fd (g := 3) (v := N c) w4 (show s < 7 by omega) (by decide)
  obtain ⟨I6, e6, w6, f6⟩ := endsTrials_ok (d := d) (M := M) (G := G) hR w5 hW
  have en : vn (planB (fdB (mvB B ms) s 3 (N c)) (N ms.length) p).1 = vn B.1 := by
    show vn (mvB B ms).1 = _
    rw [mvB_eq]; exact mvV_n _ _
  rw [en] at w6
  have h14 : I4 (12, 0, 0) 14 = N c := by rw [f4 _ (by simp)]; exact hc
  refine ⟨I6, ?_, w6, (F35.st f4).tr f6⟩
  simp only [m292, s292_0, s292_1, s292_2, s292_5, s292_6, s292_7, s292_8, s292_9, s292_12, s292_15, s292_16, s292_19, e4, h14, lays3 hR (show s < 7 by omega), e6, if_false, if_true, ck_v, ck_x, Option.toList, List.cons_append, List.nil_append, kil_nil, N_1, o10, o00, exN_0, exN_1, exN_2, exN_3, exN_4, exN_5, Ex]
theorem qb_s {k w : Nat} (hk : k < vn V) (hw : w < 8) : QB V (qsl V k (some w) none) := ⟨fun a h => (by cases h; exact hk), fun a h => (by cases h; exact hw), fun a h => (by cases h)⟩
theorem qb_c {k t : Nat} (hk : k < vn V) (ht : t < vn V) : QB V (qsl V k none (some t)) := ⟨fun a h => (by cases h; exact hk), fun a h => (by cases h), fun a h => (by cases h; exact ht)⟩
theorem planF_len {r : Pln} (hp : planF q V = some r) : r.1.length < 3 := by
  obtain ⟨l, -, h2, h3⟩ := gs_some hp
  rw [(dfs_val h3).1]; omega
theorem wcT_0 {id c : Int32} (h : wcT V id c = 0) : fid V id < vn V ∧ rg c 0 7 ∧ vl V (fid V id) = true ∧ vf V (fid V id) 3 ≠ c := by
  unfold wcT at h
  by_cases h1 : fid V id < vn V
  · rw [if_pos h1] at h
    by_cases h2 : rg c 0 7
    · rw [if_pos h2] at h
      by_cases h3 : vl V (fid V id) = true
      · rw [if_pos h3] at h
        by_cases h4 : vf V (fid V id) 3 = c
        · rw [if_pos h4] at h
          exact absurd h (by decide)
        · exact ⟨h1, h2, h3, h4⟩
      · rw [if_neg h3] at h
        exact absurd h (by decide)
    · rw [if_neg h2] at h
      exact absurd h (by decide)
  · rw [if_neg h1] at h
    exact absurd h (by decide)
theorem wcT_p {id c : Int32} (h : wcT V id c ≠ 0) : 0 < wcT V id c := by
  unfold wcT at h ⊢
  split
  · split
    · split
      · split
        · decide
        · rename_i h1 h2 h3 h4
          rw [if_pos h1, if_pos h2, if_pos h3, if_neg h4] at h
          exact absurd rfl h
      · decide
    · decide
  · decide
theorem movesToChangeM_ok {id : Int32} {w : Nat} {r : Pln} (hR : RF R) (hV : MV I V) (hw : w < 8) (h1 : wcT V id (N w) = 0) (hp : planF (qsl V (fid V id) (some w) none) V = some r) : ∃ I', evm (d + 12) 287 [aR (12, 0, 0), aI id, aI (N w)] (I, M, R, G) = some (.inl (some (aI (N r.1.length))), (thr I' 0, M, R, G)) ∧ FPF (thr I 0) I' := by
  obtain ⟨g1, -⟩ := wcT_0 h1
  have h := planSlot_ok (d := d) (M := M) (G := G) hR (hV.thr (x := 0)) g1 (qb_s (w := w) g1 hw)
  rw [hp] at h
  obtain ⟨I1, e1, f1, -⟩ := h
  have hlen := planF_len hp
  have e1' : evm (d + 11) 289 [aR (12, 0, 0), aI (N (fid V id)), aI (N w), aI (-1)] (thr I 0, M, R, G) = some (.inl (some (aI (N r.1.length))), (I1, M, R, G)) := e1
  have h7 := hV.2.2.1
  refine ⟨I1, ?_, f1⟩
  simp only [m287, s287_0, s287_1, s287_2, s287_3, s287_4, s287_7, s287_10, s287_11, s287_14, s287_17, s287_18, s287_19, s287_20, s287_21, s287_22, s287_25, s287_26, s287_27, s287_30, s287_31, s287_32, s287_33, s287_36, s287_37, s287_40, s287_41, s287_44, s287_45, wrongChange_ok hR hV, h1, t77, slotOf_f hR (hV.thr (x := 0)), plc_p g1, e1', ite_le, l00, N_neg (show r.1.length < 2147483648 by omega), if_false, if_true, ck_v, ck_x, Option.toList, List.cons_append, List.nil_append, kil_nil, N_1, o10, o00, exN_0, exN_1, exN_2, exN_3, exN_4, exN_5, Ex]
theorem movesToChangeM_no4 {id : Int32} {w : Nat} (hR : RF R) (hV : MV I V) (hw : w < 8) (h1 : wcT V id (N w) = 0) (hp : planF (qsl V (fid V id) (some w) none) V = none) : ∃ I' v, evm (d + 12) 287 [aR (12, 0, 0), aI id, aI (N w)] (I, M, R, G) = some (.inl (some (aI v)), (thr I' 4, M, R, G)) ∧ FPF (thr I 0) I' := by
  obtain ⟨g1, -⟩ := wcT_0 h1
  have h := planSlot_ok (d := d) (M := M) (G := G) hR (hV.thr (x := 0)) g1 (qb_s (w := w) g1 hw)
  rw [hp] at h
  obtain ⟨I1, e1, f1⟩ := h
  have e1' : evm (d + 11) 289 [aR (12, 0, 0), aI (N (fid V id)), aI (N w), aI (-1)] (thr I 0, M, R, G) = some (.inl (some (aI (-1))), (I1, M, R, G)) := e1
  refine ⟨I1, -1, ?_, f1⟩
  simp only [m287, s287_0, s287_1, s287_2, s287_3, s287_4, s287_7, s287_10, s287_11, s287_14, s287_17, s287_18, s287_19, s287_20, s287_21, s287_22, s287_25, s287_26, s287_27, s287_30, s287_31, s287_32, s287_33, s287_36, s287_37, s287_40, s287_41, s287_44, s287_45, wrongChange_ok hR hV, h1, t77, slotOf_f hR (hV.thr (x := 0)), plc_p g1, e1', ite_le, l00, m1n, if_false, if_true, ck_v, ck_x, Option.toList, List.cons_append, List.nil_append, kil_nil, N_1, o10, o00, exN_0, exN_1, exN_2, exN_3, exN_4, exN_5, Ex]
theorem movesToChangeM_no {id c : Int32} (hR : RF R) (hV : MV I V) (h1 : wcT V id c ≠ 0) : evm (d + 12) 287 [aR (12, 0, 0), aI id, aI c] (I, M, R, G) = some (.inl (some (aI 0)), (thr I (wcT V id c), M, R, G)) := by
  simp only [m287, s287_0, s287_1, s287_2, s287_3, s287_4, s287_7, s287_10, s287_11, s287_14, s287_17, s287_18, s287_19, s287_20, s287_21, s287_22, s287_25, s287_26, s287_27, s287_30, s287_31, s287_32, s287_33, s287_36, s287_37, s287_40, s287_41, s287_44, s287_45, wrongChange_ok hR hV, t77, ite_le, if_pos (wcT_p h1), if_false, if_true, ck_v, ck_x, Option.toList, List.cons_append, List.nil_append, kil_nil, N_1, o10, o00, exN_0, exN_1, exN_2, exN_3, exN_4, exN_5, Ex]
theorem MR.change {id : Int32} {w : Nat} {r : Pln} {p : Nat → Int32} (hR : RF R) (h : MR I B hs sn) (hw : w < 8) (h1 : wcT B.1 id (N w) = 0) (hp : planF (qsl B.1 (fid B.1 id) (some w) none) B.1 = some r) (hpr : PR B.1 r.1 p) (hW : WV (fdB (mvB B r.1) (fid B.1 id) 3 (N r.2)).1) : ∃ I', evm (d + 12) 291 [aR (12, 0, 0), aI id, aI (N w)] (I, M, R, G) = some (.inl (some (aI (N r.1.length))), (I', M, R, G)) ∧ I' (12, 0, 0) 7 = 0 ∧ MR I' (etL (vn B.1) (planB (fdB (mvB B r.1) (fid B.1 id) 3 (N r.2)) (N r.1.length) p)) (kph B hs) sn ∧ FM I I' := by
  obtain ⟨g1, -⟩ := wcT_0 h1
  have hq := planSlot_ok (d := d) (M := M) (G := G) hR (h.th (x := 0)).1.mv g1 (qb_s (w := w) g1 hw)
  rw [hp] at hq
  obtain ⟨I1, e1, f1, c0, c1⟩ := hq
  have hlen := planF_len hp
  have e1' : evm (d + 11) 289 [aR (12, 0, 0), aI (N (fid B.1 id)), aI (N w), aI (-1)] (thr I 0, M, R, G) = some (.inl (some (aI (N r.1.length))), (I1, M, R, G)) := e1
  have m1 := ((h.th (x := 0)).pf f1).th (x := 0)
  obtain ⟨I3, e3, m3, f3, k3⟩ := MR.keep (d := d + 9) (M := M) (G := G) hR m1
  have h14 : I3 (12, 0, 0) 14 = N r.2 := by rw [k3 14 (by decide), thr_o (by decide)]; exact c0
  obtain ⟨I6, e6, w6, f6⟩ := carries_ok (d := d + 2) (M := M) (G := G) (ms := r.1) (p := p) hR (by omega) m3.1 hpr (fun i k e he => by
    obtain ⟨b1, b2, b3⟩ := c1 i k e he
    rw [f3 _ (by simp) (by simp), f3 _ (by simp) (by simp), thr_ne (by simp), thr_ne (by simp)]
    exact ⟨b1, b2, b3⟩) h14 g1 hW
  refine ⟨I6, ?_, ?_, m3.mod f6 w6, (((thr_fm.tr f1.fm).tr thr_fm).tr (keep_fm f3)).tr (F35.fm f6)⟩
  · simp only [m291, s291_0, s291_1, s291_2, s291_3, s291_4, s291_7, s291_10, s291_11, s291_14, s291_17, s291_18, s291_19, s291_20, s291_21, s291_22, s291_25, s291_26, s291_27, s291_30, s291_31, s291_32, s291_33, s291_36, s291_37, s291_40, s291_41, s291_44, s291_45, s291_48, s291_51, s291_52, s291_53, s291_54, s291_57, s291_58, s291_59, s291_60, s291_63, s291_64, s291_67, s291_68, wrongChange_ok hR h.1.mv, h1, t77, slotOf_f hR (h.1.mv.thr (x := 0)), plc_p g1, e1', ite_le, l00, N_neg (show r.1.length < 2147483648 by omega), e3, slotOf_f hR m3.1.mv, e6, if_false, if_true, ck_v, ck_x, Option.toList, List.cons_append, List.nil_append, kil_nil, N_1, o10, o00, exN_0, exN_1, exN_2, exN_3, exN_4, exN_5, Ex]
  · rw [f6 _ (by simp), k3 7 (by decide), thr_at]
theorem MR.change_no4 {id : Int32} {w : Nat} (hR : RF R) (h : MR I B hs sn) (hw : w < 8) (h1 : wcT B.1 id (N w) = 0) (hp : planF (qsl B.1 (fid B.1 id) (some w) none) B.1 = none) : ∃ I', evm (d + 12) 291 [aR (12, 0, 0), aI id, aI (N w)] (I, M, R, G) = some (.inl (some (aI 0)), (thr I' 4, M, R, G)) ∧ FPF (thr I 0) I' := by
  obtain ⟨g1, -⟩ := wcT_0 h1
  have hq := planSlot_ok (d := d) (M := M) (G := G) hR (h.th (x := 0)).1.mv g1 (qb_s (w := w) g1 hw)
  rw [hp] at hq
  obtain ⟨I1, e1, f1⟩ := hq
  have e1' : evm (d + 11) 289 [aR (12, 0, 0), aI (N (fid B.1 id)), aI (N w), aI (-1)] (thr I 0, M, R, G) = some (.inl (some (aI (-1))), (I1, M, R, G)) := e1
  refine ⟨I1, ?_, f1⟩
  simp only [m291, s291_0, s291_1, s291_2, s291_3, s291_4, s291_7, s291_10, s291_11, s291_14, s291_17, s291_18, s291_19, s291_20, s291_21, s291_22, s291_25, s291_26, s291_27, s291_30, s291_31, s291_32, s291_33, s291_36, s291_37, s291_40, s291_41, s291_44, s291_45, s291_48, s291_51, s291_52, s291_53, s291_54, s291_57, s291_58, s291_59, s291_60, s291_63, s291_64, s291_67, s291_68, wrongChange_ok hR h.1.mv, h1, t77, slotOf_f hR (h.1.mv.thr (x := 0)), plc_p g1, e1', ite_le, l00, m1n, o04, if_false, if_true, ck_v, ck_x, Option.toList, List.cons_append, List.nil_append, kil_nil, N_1, o10, o00, exN_0, exN_1, exN_2, exN_3, exN_4, exN_5, Ex]
theorem MR.change_no {id c : Int32} (hR : RF R) (h : MR I B hs sn) (h1 : wcT B.1 id c ≠ 0) : evm (d + 12) 291 [aR (12, 0, 0), aI id, aI c] (I, M, R, G) = some (.inl (some (aI 0)), (thr I (wcT B.1 id c), M, R, G)) := by
  simp only [m291, s291_0, s291_1, s291_2, s291_3, s291_4, s291_7, s291_10, s291_11, s291_14, s291_17, s291_18, s291_19, s291_20, s291_21, s291_22, s291_25, s291_26, s291_27, s291_30, s291_31, s291_32, s291_33, s291_36, s291_37, s291_40, s291_41, s291_44, s291_45, s291_48, s291_51, s291_52, s291_53, s291_54, s291_57, s291_58, s291_59, s291_60, s291_63, s291_64, s291_67, s291_68, wrongChange_ok hR h.1.mv, t77, ite_le, if_pos (wcT_p h1), if_false, if_true, ck_v, ck_x, Option.toList, List.cons_append, List.nil_append, kil_nil, N_1, o10, o00, exN_0, exN_1, exN_2, exN_3, exN_4, exN_5, Ex]
theorem cmp_back {r : Nat → Int32} {i k : Nat} {v : Int32} (hs : vc B.1 i k = vc B.1 k i) (h : MW r (cmpB (cmpB B i k v) i k (vc B.1 i k))) : MW r B := by
  have e : cmpB (cmpB B i k v) i k (vc B.1 i k) = B := by
    have e2 : (fun a b => if a = i ∧ b = k ∨ a = k ∧ b = i then vc B.1 i k else (if a = i ∧ b = k ∨ a = k ∧ b = i then v else vc B.1 a b)) = B.1.2.2.2.2 := by
      funext a b
      by_cases hq : a = i ∧ b = k ∨ a = k ∧ b = i
      · rw [if_pos hq]
        rcases hq with ⟨rfl, rfl⟩ | ⟨rfl, rfl⟩
        · rfl
        · exact hs
      · rw [if_neg hq, if_neg hq]
    show (((cmpB B i k v).1.1, vn (cmpB B i k v).1, (cmpB B i k v).1.2.2.1, (cmpB B i k v).1.2.2.2.1, (fun a b => if a = i ∧ b = k ∨ a = k ∧ b = i then vc B.1 i k else (if a = i ∧ b = k ∨ a = k ∧ b = i then v else vc B.1 a b))), (cmpB B i k v).2) = B
    rw [e2]
    rfl
  rwa [e] at h
/-- may the complaint be upheld? -/
def cplT (V : Vw) (a b : Nat) : Prop := vl V a = true ∧ vl V b = true ∧ bs2 V a b ≠ 0 ∧ vc V a b ≠ 2
/-- do they conflict with one complaint more? -/
def cplC (V : Vw) (a b : Nat) : Prop := ab (vf V a 3 - vf V b 3) < bs2 V a b + (vc V a b + 1)
theorem MR.lc {i k : Nat} {v : Int32} (h : MR I B hs sn) (hi : i < vn B.1) (hk : k < vn B.1) : MR (lcI I i k v) (cmpB B i k v) hs sn := h.mod (fun o ho => lcI_ne ho) (mw_cmp h.1 (by have := h.1.2.2.2.1; omega) (by have := h.1.2.2.2.1; omega))
theorem MR.complain_no {id other : Int32} (hR : RF R) (h : MR I B hs sn) (h1 : prT B.1 id other ≠ 0) : evm (d + 12) 293 [aR (12, 0, 0), aI id, aI other] (I, M, R, G) = some (.inl (some (aI 0)), (thr I (prT B.1 id other), M, R, G)) := by
  simp only [m293, s293_0, s293_1, s293_2, s293_3, s293_6, s293_9, s293_10, s293_11, s293_12, s293_13, s293_16, s293_17, s293_18, s293_19, s293_22, s293_24, s293_25, s293_26, s293_28, s293_31, s293_33, s293_34, s293_35, s293_36, s293_39, s293_42, s293_43, s293_45, s293_48, s293_51, s293_52, s293_53, s293_55, s293_58, s293_61, s293_63, s293_64, s293_67, s293_68, s293_71, s293_72, s293_75, s293_76, s293_79, s293_82, s293_83, s293_84, s293_85, s293_86, s293_88, s293_90, s293_91, s293_92, s293_95, s293_96, s293_97, s293_99, s293_102, s293_105, s293_106, s293_108, s293_109, s293_110, s293_113, s293_116, s293_117, s293_119, s293_120, s293_121, s293_123, s293_126, s293_128, s293_129, s293_130, s293_132, s293_134, s293_137, s293_138, s293_140, s293_143, s293_144, s293_147, s293_148, s293_151, s293_152, s293_155, s293_158, s293_159, s293_160, s293_161, s293_164, s293_165, s293_166, s293_168, s293_170, s293_171, s293_172, s293_175, s293_177, s293_180, s293_181, s293_182, s293_183, s293_185, s293_187, s293_190, s293_192, s293_193, s293_194, isPair_ok hR h.1.mv, if_neg h1, if_false, if_true, ck_v, ck_x, Option.toList, List.cons_append, List.nil_append, kil_nil, N_1, o10, o00, exN_0, exN_1, exN_2, exN_3, exN_4, exN_5, Ex]
theorem MR.complain_no3 {id other : Int32} (hR : RF R) (h : MR I B hs sn) (h1 : prT B.1 id other = 0) (h2 : ¬ cplT B.1 (fid B.1 id) (fid B.1 other)) : evm (d + 12) 293 [aR (12, 0, 0), aI id, aI other] (I, M, R, G) = some (.inl (some (aI 0)), (thr I 3, M, R, G)) := by
  obtain ⟨ga, gb, -⟩ := prT_0 h1
  have hV0 := h.1.mv.thr (x := 0)
  have tt : setI (thr I 0) (12, 0, 0) 7 3 = thr I 3 := thr_thr
  by_cases a1 : vl B.1 (fid B.1 id) = true
  · have l1 : licv B.1 (fid B.1 id) = 1 := if_pos a1
    by_cases a2 : vl B.1 (fid B.1 other) = true
    · have l2 : licv B.1 (fid B.1 other) = 1 := if_pos a2
      by_cases a3 : bs2 B.1 (fid B.1 id) (fid B.1 other) = 0
      · have a3' : bs2 B.1 (fid B.1 other) (fid B.1 id) = 0 := by rw [bs2_c]; exact a3
        simp only [m293, s293_0, s293_1, s293_2, s293_3, s293_6, s293_9, s293_10, s293_11, s293_12, s293_13, s293_16, s293_17, s293_18, s293_19, s293_22, s293_24, s293_25, s293_26, s293_28, s293_31, s293_33, s293_34, s293_35, s293_36, s293_39, s293_42, s293_43, s293_45, s293_48, s293_51, s293_52, s293_53, s293_55, s293_58, s293_61, s293_63, s293_64, s293_67, s293_68, s293_71, s293_72, s293_75, s293_76, s293_79, s293_82, s293_83, s293_84, s293_85, s293_86, s293_88, s293_90, s293_91, s293_92, s293_95, s293_96, s293_97, s293_99, s293_102, s293_105, s293_106, s293_108, s293_109, s293_110, s293_113, s293_116, s293_117, s293_119, s293_120, s293_121, s293_123, s293_126, s293_128, s293_129, s293_130, s293_132, s293_134, s293_137, s293_138, s293_140, s293_143, s293_144, s293_147, s293_148, s293_151, s293_152, s293_155, s293_158, s293_159, s293_160, s293_161, s293_164, s293_165, s293_166, s293_168, s293_170, s293_171, s293_172, s293_175, s293_177, s293_180, s293_181, s293_182, s293_183, s293_185, s293_187, s293_190, s293_192, s293_193, s293_194, isPair_ok hR h.1.mv, h1, slotOf_f hR hV0, plc_p ga, plc_p gb, complaints_ok hR hV0 ga gb, isLicensed_ok hR hV0 ga, isLicensed_ok hR hV0 gb, l1, l2, baseOf_ok hR hV0 ga gb, a3', t77, ite_le, o03, tt, if_false, if_true, ck_v, ck_x, Option.toList, List.cons_append, List.nil_append, kil_nil, N_1, o10, o00, exN_0, exN_1, exN_2, exN_3, exN_4, exN_5, Ex]
      · have a3' : ¬ bs2 B.1 (fid B.1 other) (fid B.1 id) = 0 := by rw [bs2_c]; exact a3
        have a4 : vc B.1 (fid B.1 id) (fid B.1 other) = 2 := by
          rcases Classical.em (vc B.1 (fid B.1 id) (fid B.1 other) = 2) with q | q
          · exact q
          · exact absurd ⟨a1, a2, a3, q⟩ h2
        simp only [m293, s293_0, s293_1, s293_2, s293_3, s293_6, s293_9, s293_10, s293_11, s293_12, s293_13, s293_16, s293_17, s293_18, s293_19, s293_22, s293_24, s293_25, s293_26, s293_28, s293_31, s293_33, s293_34, s293_35, s293_36, s293_39, s293_42, s293_43, s293_45, s293_48, s293_51, s293_52, s293_53, s293_55, s293_58, s293_61, s293_63, s293_64, s293_67, s293_68, s293_71, s293_72, s293_75, s293_76, s293_79, s293_82, s293_83, s293_84, s293_85, s293_86, s293_88, s293_90, s293_91, s293_92, s293_95, s293_96, s293_97, s293_99, s293_102, s293_105, s293_106, s293_108, s293_109, s293_110, s293_113, s293_116, s293_117, s293_119, s293_120, s293_121, s293_123, s293_126, s293_128, s293_129, s293_130, s293_132, s293_134, s293_137, s293_138, s293_140, s293_143, s293_144, s293_147, s293_148, s293_151, s293_152, s293_155, s293_158, s293_159, s293_160, s293_161, s293_164, s293_165, s293_166, s293_168, s293_170, s293_171, s293_172, s293_175, s293_177, s293_180, s293_181, s293_182, s293_183, s293_185, s293_187, s293_190, s293_192, s293_193, s293_194, isPair_ok hR h.1.mv, h1, slotOf_f hR hV0, plc_p ga, plc_p gb, complaints_ok hR hV0 ga gb, isLicensed_ok hR hV0 ga, isLicensed_ok hR hV0 gb, l1, l2, baseOf_ok hR hV0 ga gb, a3', a4, t77, ite_le, o03, tt, if_false, if_true, ck_v, ck_x, Option.toList, List.cons_append, List.nil_append, kil_nil, N_1, o10, o00, exN_0, exN_1, exN_2, exN_3, exN_4, exN_5, Ex]
    · have l2 : licv B.1 (fid B.1 other) = 0 := if_neg a2
      simp only [m293, s293_0, s293_1, s293_2, s293_3, s293_6, s293_9, s293_10, s293_11, s293_12, s293_13, s293_16, s293_17, s293_18, s293_19, s293_22, s293_24, s293_25, s293_26, s293_28, s293_31, s293_33, s293_34, s293_35, s293_36, s293_39, s293_42, s293_43, s293_45, s293_48, s293_51, s293_52, s293_53, s293_55, s293_58, s293_61, s293_63, s293_64, s293_67, s293_68, s293_71, s293_72, s293_75, s293_76, s293_79, s293_82, s293_83, s293_84, s293_85, s293_86, s293_88, s293_90, s293_91, s293_92, s293_95, s293_96, s293_97, s293_99, s293_102, s293_105, s293_106, s293_108, s293_109, s293_110, s293_113, s293_116, s293_117, s293_119, s293_120, s293_121, s293_123, s293_126, s293_128, s293_129, s293_130, s293_132, s293_134, s293_137, s293_138, s293_140, s293_143, s293_144, s293_147, s293_148, s293_151, s293_152, s293_155, s293_158, s293_159, s293_160, s293_161, s293_164, s293_165, s293_166, s293_168, s293_170, s293_171, s293_172, s293_175, s293_177, s293_180, s293_181, s293_182, s293_183, s293_185, s293_187, s293_190, s293_192, s293_193, s293_194, isPair_ok hR h.1.mv, h1, slotOf_f hR hV0, plc_p ga, plc_p gb, complaints_ok hR hV0 ga gb, isLicensed_ok hR hV0 ga, isLicensed_ok hR hV0 gb, l1, l2, t77, ite_le, o03, tt, if_false, if_true, ck_v, ck_x, Option.toList, List.cons_append, List.nil_append, kil_nil, N_1, o10, o00, exN_0, exN_1, exN_2, exN_3, exN_4, exN_5, Ex]
  · have l1 : licv B.1 (fid B.1 id) = 0 := if_neg a1
    simp only [m293, s293_0, s293_1, s293_2, s293_3, s293_6, s293_9, s293_10, s293_11, s293_12, s293_13, s293_16, s293_17, s293_18, s293_19, s293_22, s293_24, s293_25, s293_26, s293_28, s293_31, s293_33, s293_34, s293_35, s293_36, s293_39, s293_42, s293_43, s293_45, s293_48, s293_51, s293_52, s293_53, s293_55, s293_58, s293_61, s293_63, s293_64, s293_67, s293_68, s293_71, s293_72, s293_75, s293_76, s293_79, s293_82, s293_83, s293_84, s293_85, s293_86, s293_88, s293_90, s293_91, s293_92, s293_95, s293_96, s293_97, s293_99, s293_102, s293_105, s293_106, s293_108, s293_109, s293_110, s293_113, s293_116, s293_117, s293_119, s293_120, s293_121, s293_123, s293_126, s293_128, s293_129, s293_130, s293_132, s293_134, s293_137, s293_138, s293_140, s293_143, s293_144, s293_147, s293_148, s293_151, s293_152, s293_155, s293_158, s293_159, s293_160, s293_161, s293_164, s293_165, s293_166, s293_168, s293_170, s293_171, s293_172, s293_175, s293_177, s293_180, s293_181, s293_182, s293_183, s293_185, s293_187, s293_190, s293_192, s293_193, s293_194, isPair_ok hR h.1.mv, h1, slotOf_f hR hV0, plc_p ga, plc_p gb, complaints_ok hR hV0 ga gb, isLicensed_ok hR hV0 ga, l1, t77, ite_le, o03, tt, if_false, if_true, ck_v, ck_x, Option.toList, List.cons_append, List.nil_append, kil_nil, N_1, o10, o00, exN_0, exN_1, exN_2, exN_3, exN_4, exN_5, Ex]
end MCHG
