/-! THE METHODS' MEANING: the class lays out what is sought -/
def wm (q : Qy) : Nat := match qw q with | none => 255 | some c => 2 ^ c
def SVs (I : OId → Nat → Int32) (V : Vw) (q : Qy) (L : List Nat) : Prop := ∀ i k, L[i]? = some k → I (30, 0, 0) i = sepS V q k ∧ bb (I (31, 0, 0) i) = if sqv V k (qx q) (qY q) < V.1.2.2 * V.1.2.2 then 1 else 0
def SV (I : OId → Nat → Int32) (V : Vw) (q : Qy) (L : List Nat) : Prop := I (8, 0, 0) 5 = N (wm q) ∧ (∀ i k, L[i]? = some k → (N i = I (8, 0, 0) 6) = (some k = qt q)) ∧ SVs I V q L
section SERVE
variable {d : Nat} {I I' I'' : OId → Nat → Int32} {M R : OId → Nat → AV} {G : SG} {V : Vw} {L : List Nat} {q : Qy}
theorem NT.fr (h : NT I V L) (h6 : I' (6, 0, 0) = I (6, 0, 0)) (h26 : I' (26, 0, 0) = I (26, 0, 0)) (h27 : I' (27, 0, 0) = I (27, 0, 0)) (h28 : I' (28, 0, 0) = I (28, 0, 0)) (h29 : I' (29, 0, 0) = I (29, 0, 0)) : NT I' V L := by
  unfold NT
  rw [h6, h26, h27, h28, h29]
  exact h
def svI (I : OId → Nat → Int32) (i : Nat) (s t : Int32) : OId → Nat → Int32 := setI (setI I (30, 0, 0) i s) (31, 0, 0) i t
theorem setServed_ok {i : Nat} {s t : Int32} (hR : RF R) (hi : i < 7) (ht : t = 0 ∨ t = 1) : evm (d + 2) 66 [aR (8, 0, 0), aI (N i), aI s, aI t] (I, M, R, G) = some (.inl none, (svI I i s t, M, R, G)) := by
  have k31 : kOf (31, 0, 0) = .inr (.boolean, 7) := rfl
  have kb : ∀ r, kBw (31, 0, 0) (N i) t r = r := fun r => by
    unfold kBw
    rw [k31]
    exact if_pos ⟨inB_N hi (by decide), rfl, ht⟩
  have e7 : (Int32.ofNat 7 ≤ N i) = False := N_ge (a := i) (b := 7) hi (by decide)
  simp only [m66, s66_0, s66_1, s66_4, s66_5, s66_6, s66_9, s66_10, s66_13, s66_14, s66_15, s66_18, s66_19, s66_22, s66_23, s66_26, s66_27, s66_28, s66_29, hR.s.2.2.1, hR.s.2.2.2.1, put_N (S := (I, M, R, G)) (o := (30, 0, 0)) k30 rfl hi (by decide), N_neg (show i < 2147483648 by omega), kN, k31, e7, kb, N_cl (show i < 2147483648 by omega), if_false, if_true, ck_v, ck_x, Option.toList, List.cons_append, List.nil_append, kil_nil, N_1, o10, o00, exN_0, exN_1, exN_2, exN_3, exN_4, exN_5, Ex, svI]
theorem svI_o {i : Nat} {s t : Int32} {o : OId} (h : o ≠ (30, 0, 0)) (h' : o ≠ (31, 0, 0)) : svI I i s t o = I o := by
  unfold svI
  rw [setI_ne h', setI_ne h]
theorem svI_30 {i x : Nat} {s t : Int32} : svI I i s t (30, 0, 0) x = if x = i then s else I (30, 0, 0) x := by
  unfold svI
  rw [setI_ne (by simp), setI_at]
theorem svI_31 {i x : Nat} {s t : Int32} : svI I i s t (31, 0, 0) x = if x = i then t else I (31, 0, 0) x := by
  unfold svI
  rw [setI_at, setI_ne (by simp)]
theorem svI_fs {i : Nat} {s t : Int32} : FS I (svI I i s t) := fun o ho => svI_o (by rintro rfl; exact ho (sr2 ⟨by decide, by decide⟩)) (by rintro rfl; exact ho (sr2 ⟨by decide, by decide⟩))
theorem svI_nt {i : Nat} {s t : Int32} (h : NT I V L) : NT (svI I i s t) V L := h.fr (svI_o (by simp) (by simp)) (svI_o (by simp) (by simp)) (svI_o (by simp) (by simp)) (svI_o (by simp) (by simp)) (svI_o (by simp) (by simp))
theorem bb01 {p : Prop} [Decidable p] : bb (if p then 1 else 0) = if p then 1 else 0 := by
  split <;> rfl
theorem i01 {p : Prop} [Decidable p] : (if p then (1 : Int32) else 0) = 0 ∨ (if p then (1 : Int32) else 0) = 1 := by
  split
  · exact Or.inr rfl
  · exact Or.inl rfl
/-- what a served station's part has changed -/
theorem sv_step {i k : Nat} {P : Nat → Int32} {Q : Nat → Int32} (hk : L[i]? = some k) (h : ∀ j m, j < i → L[j]? = some m → I (30, 0, 0) j = P m ∧ bb (I (31, 0, 0) j) = Q m) (hQ : bb (Q k) = Q k) : ∀ j m, j < i + 1 → L[j]? = some m → svI I i (P k) (Q k) (30, 0, 0) j = P m ∧ bb (svI I i (P k) (Q k) (31, 0, 0) j) = Q m := fun j m hj hm => by
  rw [svI_30, svI_31]
  by_cases hji : j = i
  · subst hji
    rw [hk] at hm
    cases hm
    rw [if_pos rfl, if_pos rfl]
    exact ⟨rfl, hQ⟩
  · rw [if_neg hji, if_neg hji]
    exact h j m (by omega) hm
theorem snLoop {x y : Int32} (hR : RF R) (hV : BV I 0 V) (hL7 : L.length ≤ 7) (hm : ∀ k, k ∈ L → k < vn V) : ∀ (r i : Nat) (J : OId → Nat → Int32) (l5 : Option AV), i + r = L.length → FS I J → NT J V L → (∀ j m, j < i → L[j]? = some m → J (30, 0, 0) j = sepS V ((x, y), none, none, none) m ∧ bb (J (31, 0, 0) j) = if sqv V m x y < V.1.2.2 * V.1.2.2 then 1 else 0) → ∃ J', ev (evm (d + 5)) 65 24 [some (aR (8, 0, 0)), some (aR (4, 0, 0)), some (aI x), some (aI y), some (aI (N i)), l5] [] [] (J, M, R, G) = some (.inl none, (J', M, R, G)) ∧ FS I J' ∧ NT J' V L ∧ SVs J' V ((x, y), none, none, none) L ∧ J' (8, 0, 0) = J (8, 0, 0) := by
  intro r
  have h7 := hV.2.2.1
  induction r with
  | zero =>
    intro i J l5 hi hF hN hS
    refine ⟨J, ?_, hF, hN, fun j m hm => hS j m (by have := (ls_get hm).1; omega) hm, rfl⟩
    rw [s65_24]
    simp only [m65, s65_0, s65_1, s65_4, s65_7, s65_8, s65_9, s65_12, s65_13, s65_16, s65_17, s65_18, s65_21, s65_22, s65_26, s65_27, s65_30, s65_33, s65_36, s65_37, s65_38, s65_41, s65_44, s65_46, s65_49, s65_52, s65_53, s65_54, s65_57, s65_59, s65_60, s65_62, s65_63, s65_65, s65_68, s65_70, s65_71, s65_74, s65_75, s65_78, s65_79, s65_82, s65_83, s65_86, s65_87, s65_90, s65_93, s65_96, hR.s.1, hN.1, N_ge1 (show L.length ≤ i by omega) (show i < 2147483648 by omega), if_false, if_true, ck_v, ck_x, Option.toList, List.cons_append, List.nil_append, kil_nil, N_1, o10, o00, exN_0, exN_1, exN_2, exN_3, exN_4, exN_5, Ex]
  | succ r ih =>
    intro i J l5 hi hF hN hS
    have hil : i < L.length := by omega
    obtain ⟨k, hk⟩ : ∃ k, L[i]? = some k := ⟨L[i], List.getElem?_eq_getElem hil⟩
    have hkn : k < vn V := hm k (ls_get hk).2
    have hVJ := hV.srch hF
    have e26 := (hN.2 i k hk).1
    have es : sepS V ((x, y), none, none, none) k = bsv V k x y := by unfold sepS; show _ + 0 = _; grind
    obtain ⟨J', e1, a1, a2, a3, a4⟩ := ih (i + 1) (svI J i (sepS V ((x, y), none, none, none) k) (if sqv V k x y < V.1.2.2 * V.1.2.2 then 1 else 0)) (some (aI (sqv V k x y))) (by omega) (hF.tr svI_fs) (svI_nt hN) (sv_step (P := fun k => sepS V ((x, y), none, none, none) k) (Q := fun k => if sqv V k x y < V.1.2.2 * V.1.2.2 then 1 else 0) hk hS bb01)
    refine ⟨J', ?_, a1, a2, a3, a4.trans (svI_o (by simp) (by simp))⟩
    have e2 : J (4, 0, 0) 2 = V.1.2.2 := hVJ.1.2.2
    have e0 : J (4, 0, 0) 0 = V.1.1 := hVJ.1.1
    have e1' : J (4, 0, 0) 1 = V.1.2.1 := hVJ.1.2.1
    have hbs : bse V.1.1 V.1.2.1 V.1.2.2 (sqv V k x y) = sepS V ((x, y), none, none, none) k := by rw [es]; rfl
    rw [s65_24]
    by_cases hq : sqv V k x y < V.1.2.2 * V.1.2.2
    · rw [if_pos hq] at e1
      simp only [m65, s65_0, s65_1, s65_4, s65_7, s65_8, s65_9, s65_12, s65_13, s65_16, s65_17, s65_18, s65_21, s65_22, s65_26, s65_27, s65_30, s65_33, s65_36, s65_37, s65_38, s65_41, s65_44, s65_46, s65_49, s65_52, s65_53, s65_54, s65_57, s65_59, s65_60, s65_62, s65_63, s65_65, s65_68, s65_70, s65_71, s65_74, s65_75, s65_78, s65_79, s65_82, s65_83, s65_86, s65_87, s65_90, s65_93, s65_96, hR.s.1, hR.n.1, hN.1, ite_le, N_lt1 hil (show L.length < 2147483648 by omega), get_N (S := (J, M, R, G)) k26 (fun _ => rfl) (show i < 7 by omega) (by decide), e26, at_N hR (show 0 < 8 by decide) (show k < 7 by omega), squaredTo_ok, hVJ.sq hkn, baseAt_ok, e0, e1', e2, hbs, if_pos hq, setServed_ok hR (show i < 7 by omega) (Or.inr rfl), if_false, if_true, ck_v, ck_x, Option.toList, List.cons_append, List.nil_append, kil_nil, N_1, o10, o00, exN_0, exN_1, exN_2, exN_3, exN_4, exN_5, Ex]
      exact e1
    · rw [if_neg hq] at e1
      simp only [m65, s65_0, s65_1, s65_4, s65_7, s65_8, s65_9, s65_12, s65_13, s65_16, s65_17, s65_18, s65_21, s65_22, s65_26, s65_27, s65_30, s65_33, s65_36, s65_37, s65_38, s65_41, s65_44, s65_46, s65_49, s65_52, s65_53, s65_54, s65_57, s65_59, s65_60, s65_62, s65_63, s65_65, s65_68, s65_70, s65_71, s65_74, s65_75, s65_78, s65_79, s65_82, s65_83, s65_86, s65_87, s65_90, s65_93, s65_96, hR.s.1, hR.n.1, hN.1, ite_le, N_lt1 hil (show L.length < 2147483648 by omega), get_N (S := (J, M, R, G)) k26 (fun _ => rfl) (show i < 7 by omega) (by decide), e26, at_N hR (show 0 < 8 by decide) (show k < 7 by omega), squaredTo_ok, hVJ.sq hkn, baseAt_ok, e0, e1', e2, hbs, if_neg hq, setServed_ok hR (show i < 7 by omega) (Or.inl rfl), if_false, if_true, ck_v, ck_x, Option.toList, List.cons_append, List.nil_append, kil_nil, N_1, o10, o00, exN_0, exN_1, exN_2, exN_3, exN_4, exN_5, Ex]
      exact e1
theorem ls_7 {e : Option Nat} (h7 : vn V ≤ 7) : (Ls V e).length ≤ 7 := by
  have := lsl_len (V := V) (e := e) (vn V)
  show (lsl V e (vn V)).length ≤ 7
  omega
theorem ls_m {e : Option Nat} : ∀ k, k ∈ Ls V e → k < vn V := fun k hk => (lsl_mem.mp hk).1
theorem m1N {i : Nat} (hi : i < 2147483648) : (N i = -1) = False := by
  refine eq_false (fun q => ?_)
  have := N_neg (a := i) hi
  rw [q] at this
  exact absurd this (by decide)
theorem serveNew_ok {x y : Int32} (hR : RF R) (hW : WV V) (hV : BV I 0 V) : ∃ I', evm (d + 6) 65 [aR (8, 0, 0), aR (4, 0, 0), aI x, aI y] (I, M, R, G) = some (.inl none, (I', M, R, G)) ∧ NT I' V (Ls V none) ∧ SV I' V ((x, y), none, none, none) (Ls V none) ∧ FS I I' := by
  have h7 := hV.2.2.1
  have hl7 := ls_7 (e := none) h7
  have f0 : FS I (setI (setI I (8, 0, 0) 5 255) (8, 0, 0) 6 (-1)) := (FS.rf.st sr8).st sr8
  have hV1 := hV.srch f0
  obtain ⟨I1, e1, n1, f1⟩ := load_net (d := d) (M := M) (G := G) (e := none) hR hW hV1 (fun a h => (by cases h))
  have e1' : evm (d + 5) 33 [aR (6, 0, 0), aR (4, 0, 0), aI (-1)] (setI (setI I (8, 0, 0) 5 255) (8, 0, 0) 6 (-1), M, R, G) = some (.inl none, (I1, M, R, G)) := e1
  have h8 : I1 (8, 0, 0) = setI (setI I (8, 0, 0) 5 255) (8, 0, 0) 6 (-1) (8, 0, 0) := f1 _ (by unfold netO; simp)
  obtain ⟨I2, e2, a1, a2, a3, a4⟩ := snLoop (d := d) (M := M) (G := G) (x := x) (y := y) hR (hV.srch (f0.tr f1.fs)) hl7 ls_m (Ls V none).length 0 I1 none (by omega) FS.rf n1 (fun j m hj => by omega)
  refine ⟨I2, ?_, a2, ⟨?_, ?_, a3⟩, (f0.tr f1.fs).tr a1⟩
  · rw [m65]
    simp only [s65_0, s65_1, s65_4, s65_7, s65_8, s65_9, s65_12, s65_13, s65_16, s65_17, s65_18, s65_21, s65_22, hR.s.1, e1', if_false, if_true, ck_v, ck_x, Option.toList, List.cons_append, List.nil_append, kil_nil, N_1, o10, o00, exN_0, exN_1, exN_2, exN_3, exN_4, exN_5, Ex]
    exact e2
  · rw [a4, h8, setI_at, if_neg (by decide), setI_at, if_pos rfl]; rfl
  · intro i k hk
    rw [a4, h8, setI_at, if_pos rfl, m1N (by have := (ls_get hk).1; omega)]
    exact propext ⟨fun q => q.elim, fun q => by cases q⟩
theorem slLoop {s : Nat} {w t : Option Nat} (hR : RF R) (hW : WV V) (hV : BV I 0 V) (hL7 : L.length ≤ 7) (hm : ∀ k, k ∈ L → k < vn V) (hs : s < vn V) : ∀ (r i : Nat) (J : OId → Nat → Int32) (l4 l5 : Option AV), i + r = L.length → FS I J → NT J V L → (∀ j m, j < i → L[j]? = some m → J (30, 0, 0) j = sepS V (qsl V s w t) m ∧ bb (J (31, 0, 0) j) = if sqv V m (vf V s 1) (vf V s 2) < V.1.2.2 * V.1.2.2 then 1 else 0) → ∃ J', ev (evm (d + 5)) 151 14 [some (aR (8, 0, 0)), some (aR (4, 0, 0)), some (aI (N s)), some (aI (N i)), l4, l5] [] [] (J, M, R, G) = some (.inl none, (J', M, R, G)) ∧ FS I J' ∧ NT J' V L ∧ SVs J' V (qsl V s w t) L ∧ J' (8, 0, 0) = J (8, 0, 0) := by
  intro r
  have h7 := hV.2.2.1
  induction r with
  | zero =>
    intro i J l4 l5 hi hF hN hS
    refine ⟨J, ?_, hF, hN, fun j m hm => hS j m (by have := (ls_get hm).1; omega) hm, rfl⟩
    rw [s151_14]
    simp only [m151, s151_0, s151_1, s151_4, s151_7, s151_8, s151_9, s151_12, s151_13, s151_15, s151_16, s151_19, s151_22, s151_25, s151_26, s151_29, s151_32, s151_33, s151_36, s151_38, s151_39, s151_41, s151_42, s151_45, s151_46, s151_49, s151_50, s151_53, s151_54, s151_57, s151_58, s151_61, s151_62, s151_64, s151_65, s151_66, s151_67, s151_69, s151_70, s151_73, s151_75, s151_78, s151_81, s151_84, hR.s.1, hN.1, N_ge1 (show L.length ≤ i by omega) (show i < 2147483648 by omega), if_false, if_true, ck_v, ck_x, Option.toList, List.cons_append, List.nil_append, kil_nil, N_1, o10, o00, exN_0, exN_1, exN_2, exN_3, exN_4, exN_5, Ex]
  | succ r ih =>
    intro i J l4 l5 hi hF hN hS
    have hil : i < L.length := by omega
    obtain ⟨k, hk⟩ : ∃ k, L[i]? = some k := ⟨L[i], List.getElem?_eq_getElem hil⟩
    have hkn : k < vn V := hm k (ls_get hk).2
    have hVJ := hV.srch hF
    have e26 := (hN.2 i k hk).1
    have es : sepS V (qsl V s w t) k = spv V k s := by
      show bsv V k (vf V s 1) (vf V s 2) + vc V s k = bs2 V k s + vc V k s
      rw [(hW.2.2.2.1 s k hs hkn).2]
      rfl
    have e2 : J (4, 0, 0) 2 = V.1.2.2 := hVJ.1.2.2
    have g1 : J (10, 0, s) 1 = vf V s 1 := hVJ.fl hs (by decide)
    have g2 : J (10, 0, s) 2 = vf V s 2 := hVJ.fl hs (by decide)
    have hsq : sqP J 0 k (vf V s 1) (vf V s 2) = sqv V k (vf V s 1) (vf V s 2) := hVJ.sq hkn _ _
    have hsp : spB J 0 k s = sepS V (qsl V s w t) k := by rw [es]; exact hVJ.sp hkn hs
    have hstep := sv_step (P := fun k => sepS V (qsl V s w t) k) (Q := fun k => if sqv V k (vf V s 1) (vf V s 2) < V.1.2.2 * V.1.2.2 then 1 else 0) hk hS bb01
    rw [s151_14]
    by_cases hq : sqv V k (vf V s 1) (vf V s 2) < V.1.2.2 * V.1.2.2
    · obtain ⟨J', e1, a1, a2, a3, a4⟩ := ih (i + 1) _ (some (aI (N k))) (some (aI 1)) (by omega) (hF.tr svI_fs) (svI_nt hN) hstep
      rw [if_pos hq] at e1
      refine ⟨J', ?_, a1, a2, a3, a4.trans (svI_o (by simp) (by simp))⟩
      simp only [m151, s151_0, s151_1, s151_4, s151_7, s151_8, s151_9, s151_12, s151_13, s151_15, s151_16, s151_19, s151_22, s151_25, s151_26, s151_29, s151_32, s151_33, s151_36, s151_38, s151_39, s151_41, s151_42, s151_45, s151_46, s151_49, s151_50, s151_53, s151_54, s151_57, s151_58, s151_61, s151_62, s151_64, s151_65, s151_66, s151_67, s151_69, s151_70, s151_73, s151_75, s151_78, s151_81, s151_84, hR.s.1, hR.n.1, hN.1, ite_le, N_lt1 hil (show L.length < 2147483648 by omega), get_N (S := (J, M, R, G)) k26 (fun _ => rfl) (show i < 7 by omega) (by decide), e26, sqB_ok hR (show 0 < 8 by decide) (show k < 7 by omega) (show s < 7 by omega), g1, g2, hsq, e2, if_pos hq, spB_ok hR (show 0 < 8 by decide) (show k < 7 by omega) (show s < 7 by omega), hsp, setServed_ok hR (show i < 7 by omega) (Or.inr rfl), if_false, if_true, ck_v, ck_x, Option.toList, List.cons_append, List.nil_append, kil_nil, N_1, o10, o00, exN_0, exN_1, exN_2, exN_3, exN_4, exN_5, Ex]
      exact e1
    · obtain ⟨J', e1, a1, a2, a3, a4⟩ := ih (i + 1) _ (some (aI (N k))) (some (aI 0)) (by omega) (hF.tr svI_fs) (svI_nt hN) hstep
      rw [if_neg hq] at e1
      refine ⟨J', ?_, a1, a2, a3, a4.trans (svI_o (by simp) (by simp))⟩
      simp only [m151, s151_0, s151_1, s151_4, s151_7, s151_8, s151_9, s151_12, s151_13, s151_15, s151_16, s151_19, s151_22, s151_25, s151_26, s151_29, s151_32, s151_33, s151_36, s151_38, s151_39, s151_41, s151_42, s151_45, s151_46, s151_49, s151_50, s151_53, s151_54, s151_57, s151_58, s151_61, s151_62, s151_64, s151_65, s151_66, s151_67, s151_69, s151_70, s151_73, s151_75, s151_78, s151_81, s151_84, hR.s.1, hR.n.1, hN.1, ite_le, N_lt1 hil (show L.length < 2147483648 by omega), get_N (S := (J, M, R, G)) k26 (fun _ => rfl) (show i < 7 by omega) (by decide), e26, sqB_ok hR (show 0 < 8 by decide) (show k < 7 by omega) (show s < 7 by omega), g1, g2, hsq, e2, if_neg hq, spB_ok hR (show 0 < 8 by decide) (show k < 7 by omega) (show s < 7 by omega), hsp, setServed_ok hR (show i < 7 by omega) (Or.inl rfl), if_false, if_true, ck_v, ck_x, Option.toList, List.cons_append, List.nil_append, kil_nil, N_1, o10, o00, exN_0, exN_1, exN_2, exN_3, exN_4, exN_5, Ex]
      exact e1
theorem serveLicensed_ok {s : Nat} {w t : Option Nat} (hR : RF R) (hW : WV V) (hV : BV I 0 V) (hs : s < vn V) (hN : NT I V (Ls V (some s))) : ∃ I', evm (d + 6) 151 [aR (8, 0, 0), aR (4, 0, 0), aI (N s)] (I, M, R, G) = some (.inl none, (I', M, R, G)) ∧ NT I' V (Ls V (some s)) ∧ SVs I' V (qsl V s w t) (Ls V (some s)) ∧ I' (8, 0, 0) 5 = 255 ∧ I' (8, 0, 0) 6 = -1 ∧ FS I I' := by
  have h7 := hV.2.2.1
  have hl7 := ls_7 (e := some s) h7
  have f0 : FS I (setI (setI I (8, 0, 0) 5 255) (8, 0, 0) 6 (-1)) := (FS.rf.st sr8).st sr8
  have n1 : NT (setI (setI I (8, 0, 0) 5 255) (8, 0, 0) 6 (-1)) V (Ls V (some s)) := hN.fr (by rw [setI_ne (by simp), setI_ne (by simp)]) (by rw [setI_ne (by simp), setI_ne (by simp)]) (by rw [setI_ne (by simp), setI_ne (by simp)]) (by rw [setI_ne (by simp), setI_ne (by simp)]) (by rw [setI_ne (by simp), setI_ne (by simp)])
  obtain ⟨I2, e2, a1, a2, a3, a4⟩ := slLoop (d := d) (M := M) (G := G) (w := w) (t := t) hR hW (hV.srch f0) hl7 ls_m hs (Ls V (some s)).length 0 _ none none (by omega) FS.rf n1 (fun j m hj => by omega)
  refine ⟨I2, ?_, a2, a3, ?_, ?_, f0.tr a1⟩
  · rw [m151]
    simp only [s151_0, s151_1, s151_4, s151_7, s151_8, s151_9, s151_12, s151_13, kil_nil]
    exact e2
  · rw [a4, setI_at, if_neg (by decide), setI_at, if_pos rfl]
  · rw [a4, setI_at, if_pos rfl]
theorem serveChange_ok {s w : Nat} (hR : RF R) (hW : WV V) (hV : BV I 0 V) (hs : s < vn V) (hw : w < 8) : ∃ I', evm (d + 7) 150 [aR (8, 0, 0), aR (4, 0, 0), aI (N s), aI (N w)] (I, M, R, G) = some (.inl none, (I', M, R, G)) ∧ NT I' V (Ls V (some s)) ∧ SV I' V (qsl V s (some w) none) (Ls V (some s)) ∧ FS I I' := by
  have h7 := hV.2.2.1
  have hl7 := ls_7 (e := some s) h7
  obtain ⟨I1, e1, n1, f1⟩ := load_net (d := d + 1) (M := M) (G := G) (e := some s) hR hW hV (fun a h => (by cases h; omega))
  have e1' : evm (d + 6) 33 [aR (6, 0, 0), aR (4, 0, 0), aI (N s)] (I, M, R, G) = some (.inl none, (I1, M, R, G)) := e1
  obtain ⟨I2, e2, n2, s2, w2, h2, f2⟩ := serveLicensed_ok (d := d) (M := M) (G := G) (w := some w) (t := none) hR hW (hV.srch f1.fs) hs n1
  have fr : FS I2 (setI I2 (8, 0, 0) 5 (1 <<< (N w &&& 31))) := FS.rf.st sr8
  refine ⟨setI I2 (8, 0, 0) 5 (1 <<< (N w &&& 31)), ?_, n2.fr (setI_ne (by simp)) (setI_ne (by simp)) (setI_ne (by simp)) (setI_ne (by simp)) (setI_ne (by simp)), ⟨?_, ?_, ?_⟩, (f1.fs.tr f2).tr fr⟩
  · simp only [m150, s150_0, s150_1, s150_4, s150_5, s150_6, s150_9, s150_10, s150_11, s150_12, s150_15, s150_16, s150_17, s150_18, s150_19, s150_22, hR.s.1, e1', e2, if_false, if_true, ck_v, ck_x, Option.toList, List.cons_append, List.nil_append, kil_nil, N_1, o10, o00, exN_0, exN_1, exN_2, exN_3, exN_4, exN_5, Ex]
  · rw [setI_at, if_pos rfl, one_tab w hw]; rfl
  · intro i k hk
    rw [setI_at, if_neg (by decide), h2, m1N (by have := (ls_get hk).1; omega)]
    exact propext ⟨fun q => q.elim, fun q => by cases q⟩
  · intro i k hk
    rw [setI_ne (by simp), setI_ne (by simp)]
    exact s2 i k hk
end SERVE
