/-! THE METHODS' MEANING: the class's change and complain -/
section CCHG
variable {d : Nat} {I I' I'' : OId → Nat → Int32} {M R : OId → Nat → AV} {G : SG} {V : Vw} {q : Qy} {B : Bk} {hs : List Bk} {sn : Option Bk}
theorem checkChange_ok {k : Nat} {c : Int32} (hR : RF R) (h : BV I 0 V) (hk : k < vn V) : evm (d + 3) 149 [aR (11, 0, 0), aI (N k), aI c] (I, M, R, G) = if rg c 0 7 then (if vl V k = true ∧ vf V k 3 ≠ c then some (.inl none, (I, M, R, G)) else Ex 1 (I, M, R, G)) else Ex 0 (I, M, R, G) := by
  have h7 := h.2.2.1
  have hb := h.2.2.2.2.1 k hk
  have h3 := h.fl hk (show 3 < 5 by decide)
  by_cases h1 : rg c 0 7
  · rw [if_pos h1]
    by_cases h2 : vl V k = true
    · rw [if_pos h2] at hb
      by_cases h4 : vf V k 3 = c
      · rw [if_neg (fun q => q.2 h4)]
        simp only [m149, s149_0, s149_1, s149_4, s149_5, s149_8, s149_9, s149_12, s149_13, s149_14, s149_17, s149_18, s149_21, s149_22, s149_25, s149_28, s149_36, checkChannel_ok, if_pos h1, hR.o.1, at_N hR (show 0 < 8 by decide) (show k < 7 by omega), checkLicensed_ok, hb, h3, if_pos h4, if_false, if_true, ck_v, ck_x, Option.toList, List.cons_append, List.nil_append, kil_nil, N_1, o10, o00, exN_0, exN_1, exN_2, exN_3, exN_4, exN_5, Ex]
      · rw [if_pos ⟨h2, h4⟩]
        simp only [m149, s149_0, s149_1, s149_4, s149_5, s149_8, s149_9, s149_12, s149_13, s149_14, s149_17, s149_18, s149_21, s149_22, s149_25, s149_28, s149_36, checkChannel_ok, if_pos h1, hR.o.1, at_N hR (show 0 < 8 by decide) (show k < 7 by omega), checkLicensed_ok, hb, h3, if_neg h4, if_false, if_true, ck_v, ck_x, Option.toList, List.cons_append, List.nil_append, kil_nil, N_1, o10, o00, exN_0, exN_1, exN_2, exN_3, exN_4, exN_5, Ex]
    · rw [if_neg h2] at hb
      rw [if_neg (fun q => h2 q.1)]
      simp only [m149, s149_0, s149_1, s149_4, s149_5, s149_8, s149_9, s149_12, s149_13, s149_14, s149_17, s149_18, s149_21, s149_22, s149_25, s149_28, s149_36, checkChannel_ok, if_pos h1, hR.o.1, at_N hR (show 0 < 8 by decide) (show k < 7 by omega), checkLicensed_ok, hb, if_false, if_true, ck_v, ck_x, Option.toList, List.cons_append, List.nil_append, kil_nil, N_1, o10, o00, exN_0, exN_1, exN_2, exN_3, exN_4, exN_5, Ex]
  · rw [if_neg h1]
    simp only [m149, s149_0, s149_1, s149_4, s149_5, s149_8, s149_9, s149_12, s149_13, s149_14, s149_17, s149_18, s149_21, s149_22, s149_25, s149_28, s149_36, checkChannel_ok, if_neg h1, if_false, if_true, ck_v, ck_x, Option.toList, List.cons_append, List.nil_append, kil_nil, N_1, o10, o00, exN_0, exN_1, exN_2, exN_3, exN_4, exN_5, Ex]
theorem CR.movesToChange {id : Int32} {w : Nat} {r : Pln} (hR : RF R) (h : CR I B hs sn) (hW : WV B.1) (hw : w < 8) (h1 : wcT B.1 id (N w) = 0) (hp : planF (qsl B.1 (fid B.1 id) (some w) none) B.1 = some r) : ∃ I', evm (d + 11) 148 [aR (11, 0, 0), aI id, aI (N w)] (I, M, R, G) = some (.inl (some (aI (N r.1.length))), (I', M, R, G)) ∧ FS I I' := by
  obtain ⟨g1, g2, g3, g4⟩ := wcT_0 h1
  obtain ⟨I1, e1, n1, s1, f1⟩ := serveChange_ok (d := d + 3) (M := M) (G := G) (w := w) hR hW h.1.1 g1 hw
  obtain ⟨I2, e2, f2, p2, -⟩ := findPlan_ok (d := d) (M := M) (G := G) hR hW (qb_s g1 hw) n1 s1 hp
  refine ⟨I2, ?_, f1.tr f2⟩
  simp only [m148, s148_0, s148_1, s148_2, s148_5, s148_6, s148_7, s148_8, s148_9, s148_12, s148_13, s148_16, s148_17, s148_20, s148_21, s148_22, s148_25, s148_26, s148_29, s148_30, s148_33, s148_36, s148_39, placeOf_ok hR h.1.1, if_pos g1, checkChange_ok hR h.1.1 g1, if_pos g2, if_pos (show vl B.1 (fid B.1 id) = true ∧ vf B.1 (fid B.1 id) 3 ≠ N w from ⟨g3, g4⟩), hR.o.1, hR.o.2.2.2.1, hR.s.2.1, e1, e2, p2, if_false, if_true, ck_v, ck_x, Option.toList, List.cons_append, List.nil_append, kil_nil, N_1, o10, o00, exN_0, exN_1, exN_2, exN_3, exN_4, exN_5, Ex]
theorem CR.movesToChange_no2 {id : Int32} {w : Nat} (hR : RF R) (h : CR I B hs sn) (hW : WV B.1) (hw : w < 8) (h1 : wcT B.1 id (N w) = 0) (hp : planF (qsl B.1 (fid B.1 id) (some w) none) B.1 = none) : ∃ I', evm (d + 11) 148 [aR (11, 0, 0), aI id, aI (N w)] (I, M, R, G) = Ex 2 (I', M, R, G) ∧ FS I I' := by
  obtain ⟨g1, g2, g3, g4⟩ := wcT_0 h1
  obtain ⟨I1, e1, n1, s1, f1⟩ := serveChange_ok (d := d + 3) (M := M) (G := G) (w := w) hR hW h.1.1 g1 hw
  obtain ⟨I2, e2, f2⟩ := findPlan_no (d := d) (M := M) (G := G) hR hW (qb_s g1 hw) n1 s1 hp
  refine ⟨I2, ?_, f1.tr f2⟩
  simp only [m148, s148_0, s148_1, s148_2, s148_5, s148_6, s148_7, s148_8, s148_9, s148_12, s148_13, s148_16, s148_17, s148_20, s148_21, s148_22, s148_25, s148_26, s148_29, s148_30, s148_33, s148_36, s148_39, placeOf_ok hR h.1.1, if_pos g1, checkChange_ok hR h.1.1 g1, if_pos g2, if_pos (show vl B.1 (fid B.1 id) = true ∧ vf B.1 (fid B.1 id) 3 ≠ N w from ⟨g3, g4⟩), hR.o.1, hR.o.2.2.2.1, e1, e2, if_false, if_true, ck_v, ck_x, Option.toList, List.cons_append, List.nil_append, kil_nil, N_1, o10, o00, exN_0, exN_1, exN_2, exN_3, exN_4, exN_5, Ex]
/-- the exception of a wrong change -/
def wcE (V : Vw) (id c : Int32) : Nat := if fid V id < vn V then (if rg c 0 7 then 1 else 0) else 3
theorem wc_split {id c : Int32} (h : wcT V id c ≠ 0) (h1 : fid V id < vn V) (h2 : rg c 0 7) : ¬ (vl V (fid V id) = true ∧ vf V (fid V id) 3 ≠ c) := fun q => h (by
  unfold wcT
  rw [if_pos h1, if_pos h2, if_pos q.1, if_neg q.2])
theorem CR.movesToChange_no {id c : Int32} (hR : RF R) (h : CR I B hs sn) (h1 : wcT B.1 id c ≠ 0) : evm (d + 11) 148 [aR (11, 0, 0), aI id, aI c] (I, M, R, G) = Ex (wcE B.1 id c) (I, M, R, G) := by
  unfold wcE
  by_cases g1 : fid B.1 id < vn B.1
  · rw [if_pos g1]
    by_cases g2 : rg c 0 7
    · rw [if_pos g2]
      simp only [m148, s148_0, s148_1, s148_2, s148_5, s148_6, s148_7, s148_8, s148_9, s148_12, s148_13, s148_16, s148_17, s148_20, s148_21, s148_22, s148_25, s148_26, s148_29, s148_30, s148_33, s148_36, s148_39, placeOf_ok hR h.1.1, if_pos g1, checkChange_ok hR h.1.1 g1, if_pos g2, if_neg (wc_split h1 g1 g2), if_false, if_true, ck_v, ck_x, Option.toList, List.cons_append, List.nil_append, kil_nil, N_1, o10, o00, exN_0, exN_1, exN_2, exN_3, exN_4, exN_5, Ex]
    · rw [if_neg g2]
      simp only [m148, s148_0, s148_1, s148_2, s148_5, s148_6, s148_7, s148_8, s148_9, s148_12, s148_13, s148_16, s148_17, s148_20, s148_21, s148_22, s148_25, s148_26, s148_29, s148_30, s148_33, s148_36, s148_39, placeOf_ok hR h.1.1, if_pos g1, checkChange_ok hR h.1.1 g1, if_neg g2, if_false, if_true, ck_v, ck_x, Option.toList, List.cons_append, List.nil_append, kil_nil, N_1, o10, o00, exN_0, exN_1, exN_2, exN_3, exN_4, exN_5, Ex]
  · rw [if_neg g1]
    simp only [m148, s148_0, s148_1, s148_2, s148_5, s148_6, s148_7, s148_8, s148_9, s148_12, s148_13, s148_16, s148_17, s148_20, s148_21, s148_22, s148_25, s148_26, s148_29, s148_30, s148_33, s148_36, s148_39, placeOf_ok hR h.1.1, if_neg g1, if_false, if_true, ck_v, ck_x, Option.toList, List.cons_append, List.nil_append, kil_nil, N_1, o10, o00, exN_0, exN_1, exN_2, exN_3, exN_4, exN_5, Ex]
theorem CR.change {id : Int32} {w : Nat} {r : Pln} (hR : RF R) (h : CR I B hs sn) (hW : WV B.1) (hw : w < 8) (h1 : wcT B.1 id (N w) = 0) (hp : planF (qsl B.1 (fid B.1 id) (some w) none) B.1 = some r) : ∃ I' p, evm (d + 11) 155 [aR (11, 0, 0), aI id, aI (N w)] (I, M, R, G) = some (.inl (some (aI (N r.1.length))), (I', M, R, G)) ∧ PR B.1 r.1 p ∧ CR I' (etL (vn B.1) (planB (fdB (mvB B r.1) (fid B.1 id) 3 (N r.2)) (N r.1.length) p)) (kph B hs) sn ∧ FA I I' := by
  obtain ⟨g1, g2, g3, g4⟩ := wcT_0 h1
  obtain ⟨I1, e1, n1, s1, f1⟩ := serveChange_ok (d := d + 3) (M := M) (G := G) (w := w) hR hW h.1.1 g1 hw
  obtain ⟨I2, e2, f2, p2, q2⟩ := findPlan_ok (d := d) (M := M) (G := G) hR hW (qb_s g1 hw) n1 s1 hp
  obtain ⟨hlen, hbest, hval⟩ := planF_val hp
  have c2 := h.srch (f1.tr f2)
  obtain ⟨I3, e3, c3, f3⟩ := c2.keep (d := d + 7) (M := M) (G := G) hR
  have hPL : PLN I3 B.1 r.1 (N r.2) := by
    refine ⟨by omega, ?_, ?_, fun i k e he => ?_⟩
    · rw [f3 _ (nb8 (by simp))]; exact p2
    · rw [f3 _ (nb8 (by simp))]; exact q2.1
    · obtain ⟨b1, b2, b3⟩ := q2.2 i k e he
      rw [Nat.zero_add] at b1 b2 b3
      rw [f3 _ (nb8 (by simp)), f3 _ (nb8 (by simp))]
      exact ⟨(val_lt hval he).1, b1, b3⟩
  obtain ⟨I5, e5, b5, f5⟩ := carryOut_ok (d := d + 4) (M := M) (G := G) (s := fid B.1 id) hR c3.1 hW.2.2.2.2 g1 hPL
  rw [plI_fb f3] at b5
  refine ⟨I5, plI I2, ?_, pr_of hlen q2, c3.mod f5 b5, ((f1.tr f2).fa.tr f3.fa).tr f5.fb.fa⟩
  have e8 : I5 (7, 8, 0) 0 = N r.1.length := by rw [f5.fb _ (nb8 (by simp)), f3 _ (nb8 (by simp))]; exact p2
  simp only [m155, s155_0, s155_1, s155_2, s155_5, s155_6, s155_7, s155_8, s155_9, s155_12, s155_13, s155_16, s155_17, s155_20, s155_21, s155_22, s155_25, s155_26, s155_29, s155_30, s155_33, s155_34, s155_37, s155_40, s155_41, s155_44, s155_45, s155_48, s155_51, s155_52, s155_55, s155_56, s155_59, s155_62, s155_65, placeOf_ok hR h.1.1, if_pos g1, checkChange_ok hR h.1.1 g1, if_pos g2, if_pos (show vl B.1 (fid B.1 id) = true ∧ vf B.1 (fid B.1 id) 3 ≠ N w from ⟨g3, g4⟩), hR.o.1, hR.o.2.1, hR.o.2.2.2.1, hR.s.2.1, e1, e2, e3, e5, e8, if_false, if_true, ck_v, ck_x, Option.toList, List.cons_append, List.nil_append, kil_nil, N_1, o10, o00, exN_0, exN_1, exN_2, exN_3, exN_4, exN_5, Ex]
theorem CR.change_no2 {id : Int32} {w : Nat} (hR : RF R) (h : CR I B hs sn) (hW : WV B.1) (hw : w < 8) (h1 : wcT B.1 id (N w) = 0) (hp : planF (qsl B.1 (fid B.1 id) (some w) none) B.1 = none) : ∃ I', evm (d + 11) 155 [aR (11, 0, 0), aI id, aI (N w)] (I, M, R, G) = Ex 2 (I', M, R, G) ∧ FS I I' := by
  obtain ⟨g1, g2, g3, g4⟩ := wcT_0 h1
  obtain ⟨I1, e1, n1, s1, f1⟩ := serveChange_ok (d := d + 3) (M := M) (G := G) (w := w) hR hW h.1.1 g1 hw
  obtain ⟨I2, e2, f2⟩ := findPlan_no (d := d) (M := M) (G := G) hR hW (qb_s g1 hw) n1 s1 hp
  refine ⟨I2, ?_, f1.tr f2⟩
  simp only [m155, s155_0, s155_1, s155_2, s155_5, s155_6, s155_7, s155_8, s155_9, s155_12, s155_13, s155_16, s155_17, s155_20, s155_21, s155_22, s155_25, s155_26, s155_29, s155_30, s155_33, s155_34, s155_37, s155_40, s155_41, s155_44, s155_45, s155_48, s155_51, s155_52, s155_55, s155_56, s155_59, s155_62, s155_65, placeOf_ok hR h.1.1, if_pos g1, checkChange_ok hR h.1.1 g1, if_pos g2, if_pos (show vl B.1 (fid B.1 id) = true ∧ vf B.1 (fid B.1 id) 3 ≠ N w from ⟨g3, g4⟩), hR.o.1, hR.o.2.2.2.1, e1, e2, if_false, if_true, ck_v, ck_x, Option.toList, List.cons_append, List.nil_append, kil_nil, N_1, o10, o00, exN_0, exN_1, exN_2, exN_3, exN_4, exN_5, Ex]
theorem CR.change_no {id c : Int32} (hR : RF R) (h : CR I B hs sn) (h1 : wcT B.1 id c ≠ 0) : evm (d + 11) 155 [aR (11, 0, 0), aI id, aI c] (I, M, R, G) = Ex (wcE B.1 id c) (I, M, R, G) := by
  unfold wcE
  by_cases g1 : fid B.1 id < vn B.1
  · rw [if_pos g1]
    by_cases g2 : rg c 0 7
    · rw [if_pos g2]
      simp only [m155, s155_0, s155_1, s155_2, s155_5, s155_6, s155_7, s155_8, s155_9, s155_12, s155_13, s155_16, s155_17, s155_20, s155_21, s155_22, s155_25, s155_26, s155_29, s155_30, s155_33, s155_34, s155_37, s155_40, s155_41, s155_44, s155_45, s155_48, s155_51, s155_52, s155_55, s155_56, s155_59, s155_62, s155_65, placeOf_ok hR h.1.1, if_pos g1, checkChange_ok hR h.1.1 g1, if_pos g2, if_neg (wc_split h1 g1 g2), if_false, if_true, ck_v, ck_x, Option.toList, List.cons_append, List.nil_append, kil_nil, N_1, o10, o00, exN_0, exN_1, exN_2, exN_3, exN_4, exN_5, Ex]
    · rw [if_neg g2]
      simp only [m155, s155_0, s155_1, s155_2, s155_5, s155_6, s155_7, s155_8, s155_9, s155_12, s155_13, s155_16, s155_17, s155_20, s155_21, s155_22, s155_25, s155_26, s155_29, s155_30, s155_33, s155_34, s155_37, s155_40, s155_41, s155_44, s155_45, s155_48, s155_51, s155_52, s155_55, s155_56, s155_59, s155_62, s155_65, placeOf_ok hR h.1.1, if_pos g1, checkChange_ok hR h.1.1 g1, if_neg g2, if_false, if_true, ck_v, ck_x, Option.toList, List.cons_append, List.nil_append, kil_nil, N_1, o10, o00, exN_0, exN_1, exN_2, exN_3, exN_4, exN_5, Ex]
  · rw [if_neg g1]
    simp only [m155, s155_0, s155_1, s155_2, s155_5, s155_6, s155_7, s155_8, s155_9, s155_12, s155_13, s155_16, s155_17, s155_20, s155_21, s155_22, s155_25, s155_26, s155_29, s155_30, s155_33, s155_34, s155_37, s155_40, s155_41, s155_44, s155_45, s155_48, s155_51, s155_52, s155_55, s155_56, s155_59, s155_62, s155_65, placeOf_ok hR h.1.1, if_neg g1, if_false, if_true, ck_v, ck_x, Option.toList, List.cons_append, List.nil_append, kil_nil, N_1, o10, o00, exN_0, exN_1, exN_2, exN_3, exN_4, exN_5, Ex]
theorem checkComplaint_ok {a b : Nat} (hR : RF R) (h : BV I 0 V) (hW : WV V) (ha : a < vn V) (hb : b < vn V) (hc : cplT V a b) : evm (d + 3) 158 [aR (11, 0, 0), aI (N a), aI (N b)] (I, M, R, G) = some (.inl none, (I, M, R, G)) := by
  have h7 := h.2.2.1
  have ba := h.2.2.2.2.1 a ha
  have bb' := h.2.2.2.2.1 b hb
  rw [if_pos hc.1] at ba
  rw [if_pos hc.2.1] at bb'
  have h3 : ¬ bsB I 0 a b = 0 := by rw [h.bs ha hb]; exact hc.2.2.1
  have h4 : cmB I 0 a b < 2 := by
    rw [h.cm ha hb]
    obtain ⟨⟨u, hu, e⟩, -⟩ := hW.2.2.2.1 a b ha hb
    have h5 := hc.2.2.2
    rw [e] at h5 ⊢
    show N u < N 2
    rw [N_lt (by omega) (by decide)]
    have : u ≠ 2 := fun q => h5 (by rw [q]; rfl)
    omega
  simp only [m158, s158_0, s158_1, s158_4, s158_5, s158_8, s158_11, s158_12, s158_15, s158_16, s158_19, s158_22, s158_23, s158_26, s158_27, s158_28, s158_31, s158_34, s158_37, s158_45, s158_46, s158_49, s158_50, s158_51, s158_54, s158_55, s158_58, s158_61, s158_69, hR.o.1, at_N hR (show 0 < 8 by decide) (show a < 7 by omega), at_N hR (show 0 < 8 by decide) (show b < 7 by omega), checkLicensed_ok, ba, bb', bsB_ok hR (show 0 < 8 by decide) (show a < 7 by omega) (show b < 7 by omega), h3, cmB_ok hR (show 0 < 8 by decide) (show a < 7 by omega) (show b < 7 by omega), if_pos h4, if_false, if_true, ck_v, ck_x, Option.toList, List.cons_append, List.nil_append, kil_nil, N_1, o10, o00, exN_0, exN_1, exN_2, exN_3, exN_4, exN_5, Ex]
theorem checkComplaint_no {a b : Nat} (hR : RF R) (h : BV I 0 V) (ha : a < vn V) (hb : b < vn V) (hc : ¬ cplT V a b) : evm (d + 3) 158 [aR (11, 0, 0), aI (N a), aI (N b)] (I, M, R, G) = Ex 1 (I, M, R, G) := by
  have h7 := h.2.2.1
  have ba := h.2.2.2.2.1 a ha
  have bb' := h.2.2.2.2.1 b hb
  by_cases c1 : vl V a = true
  · rw [if_pos c1] at ba
    by_cases c2 : vl V b = true
    · rw [if_pos c2] at bb'
      by_cases c3 : bs2 V a b = 0
      · have h3 : bsB I 0 a b = 0 := by rw [h.bs ha hb]; exact c3
        simp only [m158, s158_0, s158_1, s158_4, s158_5, s158_8, s158_11, s158_12, s158_15, s158_16, s158_19, s158_22, s158_23, s158_26, s158_27, s158_28, s158_31, s158_34, s158_37, s158_45, s158_46, s158_49, s158_50, s158_51, s158_54, s158_55, s158_58, s158_61, s158_69, hR.o.1, at_N hR (show 0 < 8 by decide) (show a < 7 by omega), at_N hR (show 0 < 8 by decide) (show b < 7 by omega), checkLicensed_ok, ba, bb', bsB_ok hR (show 0 < 8 by decide) (show a < 7 by omega) (show b < 7 by omega), h3, if_false, if_true, ck_v, ck_x, Option.toList, List.cons_append, List.nil_append, kil_nil, N_1, o10, o00, exN_0, exN_1, exN_2, exN_3, exN_4, exN_5, Ex]
      · have h3 : ¬ bsB I 0 a b = 0 := by rw [h.bs ha hb]; exact c3
        have c4 : vc V a b = 2 := by
          rcases Classical.em (vc V a b = 2) with q | q
          · exact q
          · exact absurd ⟨c1, c2, c3, q⟩ hc
        have h4 : ¬ cmB I 0 a b < 2 := by rw [h.cm ha hb, c4]; decide
        simp only [m158, s158_0, s158_1, s158_4, s158_5, s158_8, s158_11, s158_12, s158_15, s158_16, s158_19, s158_22, s158_23, s158_26, s158_27, s158_28, s158_31, s158_34, s158_37, s158_45, s158_46, s158_49, s158_50, s158_51, s158_54, s158_55, s158_58, s158_61, s158_69, hR.o.1, at_N hR (show 0 < 8 by decide) (show a < 7 by omega), at_N hR (show 0 < 8 by decide) (show b < 7 by omega), checkLicensed_ok, ba, bb', bsB_ok hR (show 0 < 8 by decide) (show a < 7 by omega) (show b < 7 by omega), h3, cmB_ok hR (show 0 < 8 by decide) (show a < 7 by omega) (show b < 7 by omega), if_neg h4, if_false, if_true, ck_v, ck_x, Option.toList, List.cons_append, List.nil_append, kil_nil, N_1, o10, o00, exN_0, exN_1, exN_2, exN_3, exN_4, exN_5, Ex]
    · rw [if_neg c2] at bb'
      simp only [m158, s158_0, s158_1, s158_4, s158_5, s158_8, s158_11, s158_12, s158_15, s158_16, s158_19, s158_22, s158_23, s158_26, s158_27, s158_28, s158_31, s158_34, s158_37, s158_45, s158_46, s158_49, s158_50, s158_51, s158_54, s158_55, s158_58, s158_61, s158_69, hR.o.1, at_N hR (show 0 < 8 by decide) (show a < 7 by omega), at_N hR (show 0 < 8 by decide) (show b < 7 by omega), checkLicensed_ok, ba, bb', if_false, if_true, ck_v, ck_x, Option.toList, List.cons_append, List.nil_append, kil_nil, N_1, o10, o00, exN_0, exN_1, exN_2, exN_3, exN_4, exN_5, Ex]
  · rw [if_neg c1] at ba
    simp only [m158, s158_0, s158_1, s158_4, s158_5, s158_8, s158_11, s158_12, s158_15, s158_16, s158_19, s158_22, s158_23, s158_26, s158_27, s158_28, s158_31, s158_34, s158_37, s158_45, s158_46, s158_49, s158_50, s158_51, s158_54, s158_55, s158_58, s158_61, s158_69, hR.o.1, at_N hR (show 0 < 8 by decide) (show a < 7 by omega), checkLicensed_ok, ba, if_false, if_true, ck_v, ck_x, Option.toList, List.cons_append, List.nil_append, kil_nil, N_1, o10, o00, exN_0, exN_1, exN_2, exN_3, exN_4, exN_5, Ex]
theorem mgB_c {a b : Nat} (h : BV I 0 V) (hW : WV V) (ha : a < vn V) (hb : b < vn V) : (mgB I 0 a b ≤ 0) = cplC V a b := by
  rw [h.mg ha hb]
  obtain ⟨u, hu, e1⟩ := hW.abx ha hb
  obtain ⟨w, hw, e2⟩ := hW.sp ha hb
  unfold mgv cplC
  rw [e1, e2, mg_tab u hu w hw]
  have e3 : bs2 V a b + (vc V a b + 1) = N w + 1 := by
    rw [← e2]
    show _ = bs2 V a b + vc V a b + 1
    grind
  rw [e3]
theorem CR.complain_no {id other : Int32} (hR : RF R) (h : CR I B hs sn) (h1 : prT B.1 id other ≠ 0) : evm (d + 11) 157 [aR (11, 0, 0), aI id, aI other] (I, M, R, G) = Ex (if prT B.1 id other = 1 then 3 else 0) (I, M, R, G) := by
  unfold prT at h1 ⊢
  by_cases g1 : fid B.1 id < vn B.1
  · by_cases g2 : fid B.1 other < vn B.1
    · have g3 : id = other := by
        rcases Classical.em (id = other) with q | q
        · exact q
        · rw [if_pos g1, if_pos g2, if_neg q] at h1
          exact absurd rfl h1
      rw [if_pos g1, if_pos g2, if_pos g3, if_neg (by decide)]
      simp only [m157, s157_0, s157_1, s157_2, s157_5, s157_6, s157_7, s157_8, s157_9, s157_12, s157_14, s157_15, s157_16, s157_18, s157_21, s157_22, s157_25, s157_26, s157_28, s157_31, s157_34, s157_35, s157_38, s157_39, s157_42, s157_45, s157_46, s157_49, s157_50, s157_52, s157_55, s157_56, s157_57, s157_58, s157_61, s157_62, s157_65, s157_66, s157_68, s157_71, s157_72, s157_75, s157_76, s157_79, s157_80, s157_83, s157_86, s157_87, s157_90, s157_91, s157_93, s157_96, s157_97, s157_100, s157_101, s157_104, s157_107, s157_109, s157_112, s157_113, s157_116, s157_119, s157_122, s157_123, s157_124, placeOf_ok hR h.1.1, if_pos g1, placeOfOther_ok hR h.1.1, if_pos g2, if_pos g3, if_false, if_true, ck_v, ck_x, Option.toList, List.cons_append, List.nil_append, kil_nil, N_1, o10, o00, exN_0, exN_1, exN_2, exN_3, exN_4, exN_5, Ex]
    · rw [if_pos g1, if_neg g2, if_pos rfl]
      simp only [m157, s157_0, s157_1, s157_2, s157_5, s157_6, s157_7, s157_8, s157_9, s157_12, s157_14, s157_15, s157_16, s157_18, s157_21, s157_22, s157_25, s157_26, s157_28, s157_31, s157_34, s157_35, s157_38, s157_39, s157_42, s157_45, s157_46, s157_49, s157_50, s157_52, s157_55, s157_56, s157_57, s157_58, s157_61, s157_62, s157_65, s157_66, s157_68, s157_71, s157_72, s157_75, s157_76, s157_79, s157_80, s157_83, s157_86, s157_87, s157_90, s157_91, s157_93, s157_96, s157_97, s157_100, s157_101, s157_104, s157_107, s157_109, s157_112, s157_113, s157_116, s157_119, s157_122, s157_123, s157_124, placeOf_ok hR h.1.1, if_pos g1, placeOfOther_ok hR h.1.1, if_neg g2, if_false, if_true, ck_v, ck_x, Option.toList, List.cons_append, List.nil_append, kil_nil, N_1, o10, o00, exN_0, exN_1, exN_2, exN_3, exN_4, exN_5, Ex]
  · rw [if_neg g1, if_pos rfl]
    simp only [m157, s157_0, s157_1, s157_2, s157_5, s157_6, s157_7, s157_8, s157_9, s157_12, s157_14, s157_15, s157_16, s157_18, s157_21, s157_22, s157_25, s157_26, s157_28, s157_31, s157_34, s157_35, s157_38, s157_39, s157_42, s157_45, s157_46, s157_49, s157_50, s157_52, s157_55, s157_56, s157_57, s157_58, s157_61, s157_62, s157_65, s157_66, s157_68, s157_71, s157_72, s157_75, s157_76, s157_79, s157_80, s157_83, s157_86, s157_87, s157_90, s157_91, s157_93, s157_96, s157_97, s157_100, s157_101, s157_104, s157_107, s157_109, s157_112, s157_113, s157_116, s157_119, s157_122, s157_123, s157_124, placeOf_ok hR h.1.1, if_neg g1, if_false, if_true, ck_v, ck_x, Option.toList, List.cons_append, List.nil_append, kil_nil, N_1, o10, o00, exN_0, exN_1, exN_2, exN_3, exN_4, exN_5, Ex]
theorem CR.complain_no1 {id other : Int32} (hR : RF R) (h : CR I B hs sn) (h1 : prT B.1 id other = 0) (h2 : ¬ cplT B.1 (fid B.1 id) (fid B.1 other)) : evm (d + 11) 157 [aR (11, 0, 0), aI id, aI other] (I, M, R, G) = Ex 1 (I, M, R, G) := by
  obtain ⟨ga, gb, gne⟩ := prT_0 h1
  simp only [m157, s157_0, s157_1, s157_2, s157_5, s157_6, s157_7, s157_8, s157_9, s157_12, s157_14, s157_15, s157_16, s157_18, s157_21, s157_22, s157_25, s157_26, s157_28, s157_31, s157_34, s157_35, s157_38, s157_39, s157_42, s157_45, s157_46, s157_49, s157_50, s157_52, s157_55, s157_56, s157_57, s157_58, s157_61, s157_62, s157_65, s157_66, s157_68, s157_71, s157_72, s157_75, s157_76, s157_79, s157_80, s157_83, s157_86, s157_87, s157_90, s157_91, s157_93, s157_96, s157_97, s157_100, s157_101, s157_104, s157_107, s157_109, s157_112, s157_113, s157_116, s157_119, s157_122, s157_123, s157_124, placeOf_ok hR h.1.1, if_pos ga, placeOfOther_ok hR h.1.1, if_pos gb, if_neg gne, checkComplaint_no hR h.1.1 ga gb h2, if_false, if_true, ck_v, ck_x, Option.toList, List.cons_append, List.nil_append, kil_nil, N_1, o10, o00, exN_0, exN_1, exN_2, exN_3, exN_4, exN_5, Ex]
theorem CR.complain_free {id other : Int32} (hR : RF R) (h : CR I B hs sn) (hW : WV B.1) (h1 : prT B.1 id other = 0) (h2 : cplT B.1 (fid B.1 id) (fid B.1 other)) (h3 : ¬ cplC B.1 (fid B.1 id) (fid B.1 other)) : ∃ I', evm (d + 11) 157 [aR (11, 0, 0), aI id, aI other] (I, M, R, G) = some (.inl (some (aI 0)), (I', M, R, G)) ∧ CR I' (cmpB B (fid B.1 id) (fid B.1 other) (vc B.1 (fid B.1 id) (fid B.1 other) + 1)) (kph B hs) sn ∧ FA I I' := by
  obtain ⟨ga, gb, gne⟩ := prT_0 h1
  have h7 := h.1.1.2.2.1
  obtain ⟨I3, e3, c3, f3⟩ := h.keep (d := d + 7) (M := M) (G := G) hR
  have hmg : (mgB I 0 (fid B.1 id) (fid B.1 other) ≤ 0) = False := by rw [mgB_c h.1.1 hW ga gb]; exact eq_false h3
  have fr : Fr0 I3 (adI I3 (fid B.1 id) (fid B.1 other) (vc B.1 (fid B.1 id) (fid B.1 other) + 1)) := (Fr0.rf.st ⟨rfl, by simp⟩).st ⟨rfl, by simp⟩
  refine ⟨_, ?_, c3.mod fr (ad_ba c3.1 ga gb), f3.fa.tr fr.fb.fa⟩
  simp only [m157, s157_0, s157_1, s157_2, s157_5, s157_6, s157_7, s157_8, s157_9, s157_12, s157_14, s157_15, s157_16, s157_18, s157_21, s157_22, s157_25, s157_26, s157_28, s157_31, s157_34, s157_35, s157_38, s157_39, s157_42, s157_45, s157_46, s157_49, s157_50, s157_52, s157_55, s157_56, s157_57, s157_58, s157_61, s157_62, s157_65, s157_66, s157_68, s157_71, s157_72, s157_75, s157_76, s157_79, s157_80, s157_83, s157_86, s157_87, s157_90, s157_91, s157_93, s157_96, s157_97, s157_100, s157_101, s157_104, s157_107, s157_109, s157_112, s157_113, s157_116, s157_119, s157_122, s157_123, s157_124, placeOf_ok hR h.1.1, if_pos ga, placeOfOther_ok hR h.1.1, if_pos gb, if_neg gne, checkComplaint_ok hR h.1.1 hW ga gb h2, hR.o.1, hR.o.2.1, mgB_ok hR (show 0 < 8 by decide) (show fid B.1 id < 7 by omega) (show fid B.1 other < 7 by omega), hmg, e3, addComplaint_ok hR c3.1 ga gb, if_false, if_true, ck_v, ck_x, Option.toList, List.cons_append, List.nil_append, kil_nil, N_1, o10, o00, exN_0, exN_1, exN_2, exN_3, exN_4, exN_5, Ex]
theorem fid_id {id : Int32} (h : fid V id < vn V) : vf V (fid V id) 0 = id := by
  have := fs_yes (p := fun k => decide (vf V k 0 = id)) (n := vn V) h
  exact of_decide_eq_true this
theorem CR.complain_plan {id other : Int32} {r : Pln} {B1 : Bk} (hR : RF R) (h : CR I B hs sn) (hW : WV B.1) (hW1 : WV B1.1) (h1 : prT B.1 id other = 0) (h2 : cplT B.1 (fid B.1 id) (fid B.1 other)) (h3 : cplC B.1 (fid B.1 id) (fid B.1 other)) (hB1 : B1 = cmpB B (fid B.1 id) (fid B.1 other) (vc B.1 (fid B.1 id) (fid B.1 other) + 1)) (hp : planF (qsl B1.1 (fid B.1 other) none (some (fid B.1 id))) B1.1 = some r) : ∃ I' p, evm (d + 11) 157 [aR (11, 0, 0), aI id, aI other] (I, M, R, G) = some (.inl (some (aI (N (r.1.length + 1)))), (I', M, R, G)) ∧ PR B1.1 r.1 p ∧ CR I' (etL (vn B.1) (planB (fdB (mvB B1 r.1) (fid B.1 other) 3 (N r.2)) (N r.1.length) p)) (kph B hs) sn ∧ FA I I' := by
  obtain ⟨ga, gb, gne⟩ := prT_0 h1
  have h7 := h.1.1.2.2.1
  have ida := fid_id ga
  have hne : fid B.1 id ≠ fid B.1 other := fun q => gne (by rw [← ida, ← fid_id gb, q])
  have ga1 : fid B.1 id < vn B1.1 := by rw [hB1]; exact ga
  have gb1 : fid B.1 other < vn B1.1 := by rw [hB1]; exact gb
  have hmg : (mgB I 0 (fid B.1 id) (fid B.1 other) ≤ 0) = True := by rw [mgB_c h.1.1 hW ga gb]; exact eq_true h3
  obtain ⟨I1, e1, n1, s1, f1⟩ := serveComplaint_ok (d := d + 3) (M := M) (G := G) hR hW h.1.1 gb ga hne
  rw [ida] at e1
  have hu : upV B.1 (fid B.1 id) (fid B.1 other) (vc B.1 (fid B.1 id) (fid B.1 other) + 1) = B1.1 := by rw [hB1]; rfl
  rw [hu] at n1 s1
  have hLs : Ls B1.1 (some (fid B.1 other)) = Ls B.1 (some (fid B.1 other)) := by
    rw [hB1]
    exact lsl_up _
  have n1' : NT I1 B1.1 (Ls B1.1 (qs (qsl B1.1 (fid B.1 other) none (some (fid B.1 id))))) := by
    show NT I1 B1.1 (Ls B1.1 (some (fid B.1 other)))
    rw [hLs]; exact n1
  have s1' : SV I1 B1.1 (qsl B1.1 (fid B.1 other) none (some (fid B.1 id))) (Ls B1.1 (qs (qsl B1.1 (fid B.1 other) none (some (fid B.1 id))))) := by
    show SV I1 B1.1 _ (Ls B1.1 (some (fid B.1 other)))
    rw [hLs]; exact s1
  obtain ⟨I2, e2, f2, p2, q2⟩ := findPlan_ok (d := d) (M := M) (G := G) hR hW1 (qb_c gb1 ga1) n1' s1' hp
  obtain ⟨hlen, hbest, hval⟩ := planF_val hp
  have c2 := h.srch (f1.tr f2)
  obtain ⟨I3, e3, c3, f3⟩ := c2.keep (d := d + 7) (M := M) (G := G) hR
  have fr : Fr0 I3 (adI I3 (fid B.1 id) (fid B.1 other) (vc B.1 (fid B.1 id) (fid B.1 other) + 1)) := (Fr0.rf.st ⟨rfl, by simp⟩).st ⟨rfl, by simp⟩
  have b4 := ad_ba (v := vc B.1 (fid B.1 id) (fid B.1 other) + 1) c3.1 ga gb
  rw [← hB1] at b4
  have f34 : FB I2 (adI I3 (fid B.1 id) (fid B.1 other) (vc B.1 (fid B.1 id) (fid B.1 other) + 1)) := f3.tr fr.fb
  have hPL : PLN (adI I3 (fid B.1 id) (fid B.1 other) (vc B.1 (fid B.1 id) (fid B.1 other) + 1)) B1.1 r.1 (N r.2) := by
    refine ⟨by omega, ?_, ?_, fun i k e he => ?_⟩
    · rw [f34 _ (nb8 (by simp))]; exact p2
    · rw [f34 _ (nb8 (by simp))]; exact q2.1
    · obtain ⟨b1, b2, b3⟩ := q2.2 i k e he
      rw [Nat.zero_add] at b1 b2 b3
      rw [f34 _ (nb8 (by simp)), f34 _ (nb8 (by simp))]
      exact ⟨(val_lt hval he).1, b1, b3⟩
  obtain ⟨I5, e5, b5, f5⟩ := carryOut_ok (d := d + 4) (M := M) (G := G) (s := fid B.1 other) hR b4 hW1.2.2.2.2 gb1 hPL
  rw [plI_fb f34] at b5
  have en : vn B1.1 = vn B.1 := by rw [hB1]; rfl
  unfold coB at b5
  rw [en] at b5
  refine ⟨I5, plI I2, ?_, pr_of hlen q2, c3.mod (fr.tr f5) b5, ((f1.tr f2).fa.tr f3.fa).tr (fr.tr f5).fb.fa⟩
  have e8 : I5 (7, 8, 0) 0 = N r.1.length := by rw [f5.fb _ (nb8 (by simp)), f34 _ (nb8 (by simp))]; exact p2
  simp only [m157, s157_0, s157_1, s157_2, s157_5, s157_6, s157_7, s157_8, s157_9, s157_12, s157_14, s157_15, s157_16, s157_18, s157_21, s157_22, s157_25, s157_26, s157_28, s157_31, s157_34, s157_35, s157_38, s157_39, s157_42, s157_45, s157_46, s157_49, s157_50, s157_52, s157_55, s157_56, s157_57, s157_58, s157_61, s157_62, s157_65, s157_66, s157_68, s157_71, s157_72, s157_75, s157_76, s157_79, s157_80, s157_83, s157_86, s157_87, s157_90, s157_91, s157_93, s157_96, s157_97, s157_100, s157_101, s157_104, s157_107, s157_109, s157_112, s157_113, s157_116, s157_119, s157_122, s157_123, s157_124, placeOf_ok hR h.1.1, if_pos ga, placeOfOther_ok hR h.1.1, if_pos gb, if_neg gne, checkComplaint_ok hR h.1.1 hW ga gb h2, hR.o.1, hR.o.2.1, hR.o.2.2.2.1, hR.s.2.1, mgB_ok hR (show 0 < 8 by decide) (show fid B.1 id < 7 by omega) (show fid B.1 other < 7 by omega), hmg, e1, e2, e3, addComplaint_ok hR c3.1 ga gb, e5, e8, if_false, if_true, ck_v, ck_x, Option.toList, List.cons_append, List.nil_append, kil_nil, N_1, o10, o00, exN_0, exN_1, exN_2, exN_3, exN_4, exN_5, Ex]
theorem CR.complain_no2 {id other : Int32} {B1 : Bk} (hR : RF R) (h : CR I B hs sn) (hW : WV B.1) (hW1 : WV B1.1) (h1 : prT B.1 id other = 0) (h2 : cplT B.1 (fid B.1 id) (fid B.1 other)) (h3 : cplC B.1 (fid B.1 id) (fid B.1 other)) (hB1 : B1 = cmpB B (fid B.1 id) (fid B.1 other) (vc B.1 (fid B.1 id) (fid B.1 other) + 1)) (hp : planF (qsl B1.1 (fid B.1 other) none (some (fid B.1 id))) B1.1 = none) : ∃ I', evm (d + 11) 157 [aR (11, 0, 0), aI id, aI other] (I, M, R, G) = Ex 2 (I', M, R, G) ∧ FS I I' := by
  obtain ⟨ga, gb, gne⟩ := prT_0 h1
  have h7 := h.1.1.2.2.1
  have ida := fid_id ga
  have hne : fid B.1 id ≠ fid B.1 other := fun q => gne (by rw [← ida, ← fid_id gb, q])
  have ga1 : fid B.1 id < vn B1.1 := by rw [hB1]; exact ga
  have gb1 : fid B.1 other < vn B1.1 := by rw [hB1]; exact gb
  have hmg : (mgB I 0 (fid B.1 id) (fid B.1 other) ≤ 0) = True := by rw [mgB_c h.1.1 hW ga gb]; exact eq_true h3
  obtain ⟨I1, e1, n1, s1, f1⟩ := serveComplaint_ok (d := d + 3) (M := M) (G := G) hR hW h.1.1 gb ga hne
  rw [ida] at e1
  have hu : upV B.1 (fid B.1 id) (fid B.1 other) (vc B.1 (fid B.1 id) (fid B.1 other) + 1) = B1.1 := by rw [hB1]; rfl
  rw [hu] at n1 s1
  have hLs : Ls B1.1 (some (fid B.1 other)) = Ls B.1 (some (fid B.1 other)) := by
    rw [hB1]
    exact lsl_up _
  have n1' : NT I1 B1.1 (Ls B1.1 (qs (qsl B1.1 (fid B.1 other) none (some (fid B.1 id))))) := by
    show NT I1 B1.1 (Ls B1.1 (some (fid B.1 other)))
    rw [hLs]; exact n1
  have s1' : SV I1 B1.1 (qsl B1.1 (fid B.1 other) none (some (fid B.1 id))) (Ls B1.1 (qs (qsl B1.1 (fid B.1 other) none (some (fid B.1 id))))) := by
    show SV I1 B1.1 _ (Ls B1.1 (some (fid B.1 other)))
    rw [hLs]; exact s1
  obtain ⟨I2, e2, f2⟩ := findPlan_no (d := d) (M := M) (G := G) hR hW1 (qb_c gb1 ga1) n1' s1' hp
  refine ⟨I2, ?_, f1.tr f2⟩
  simp only [m157, s157_0, s157_1, s157_2, s157_5, s157_6, s157_7, s157_8, s157_9, s157_12, s157_14, s157_15, s157_16, s157_18, s157_21, s157_22, s157_25, s157_26, s157_28, s157_31, s157_34, s157_35, s157_38, s157_39, s157_42, s157_45, s157_46, s157_49, s157_50, s157_52, s157_55, s157_56, s157_57, s157_58, s157_61, s157_62, s157_65, s157_66, s157_68, s157_71, s157_72, s157_75, s157_76, s157_79, s157_80, s157_83, s157_86, s157_87, s157_90, s157_91, s157_93, s157_96, s157_97, s157_100, s157_101, s157_104, s157_107, s157_109, s157_112, s157_113, s157_116, s157_119, s157_122, s157_123, s157_124, placeOf_ok hR h.1.1, if_pos ga, placeOfOther_ok hR h.1.1, if_pos gb, if_neg gne, checkComplaint_ok hR h.1.1 hW ga gb h2, hR.o.1, hR.o.2.1, hR.o.2.2.2.1, mgB_ok hR (show 0 < 8 by decide) (show fid B.1 id < 7 by omega) (show fid B.1 other < 7 by omega), hmg, e1, e2, if_false, if_true, ck_v, ck_x, Option.toList, List.cons_append, List.nil_append, kil_nil, N_1, o10, o00, exN_0, exN_1, exN_2, exN_3, exN_4, exN_5, Ex]
end CCHG
