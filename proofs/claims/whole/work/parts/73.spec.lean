/-! THE METHODS' MEANING: the model's license, change, complain -/
section MLIC
variable {d : Nat} {I I' I'' : OId → Nat → Int32} {M R : OId → Nat → AV} {G : SG} {V : Vw} {q : Qy} {B : Bk} {hs : List Bk} {sn : Option Bk}
theorem qb_n {x y : Int32} : QB V ((x, y), none, none, none) := ⟨fun a h => (by cases h), fun a h => (by cases h), fun a h => (by cases h)⟩
theorem openChannelsM_ok {x y : Int32} (hR : RF R) (hV : MV I V) (h1 : rg x 0 99 ∧ rg y 0 99) : ∃ I', evm (d + 6) 284 [aR (12, 0, 0), aI x, aI y] (I, M, R, G) = some (.inl (some (aI (sm (fun c => if freeS V ((x, y), none, none, none) c = true then 1 <<< (N c &&& 31) else 0) 8))), (I', M, R, G)) ∧ I' (12, 0, 0) 7 = 0 ∧ FPF (thr I 0) I' := by
  obtain ⟨J, hJ⟩ : ∃ J, J = setI (setI (setI (thr I 0) (12, 0, 0) 10 x) (12, 0, 0) 11 y) (12, 0, 0) 9 (-1) := ⟨_, rfl⟩
  have hJo : ∀ o, o ≠ (12, 0, 0) → J o = I o := fun o ho => by rw [hJ, setI_ne ho, setI_ne ho, setI_ne ho, thr_ne ho]
  have hJ12 : ∀ f, J (12, 0, 0) f = if f = 9 then -1 else if f = 11 then y else if f = 10 then x else thr I 0 (12, 0, 0) f := fun f => by rw [hJ, setI_at, setI_at, setI_at]
  have hQ : MQ3 J ((x, y), none, none, none) := ⟨by rw [hJ12]; rfl, by rw [hJ12]; rfl, by rw [hJ12]; rfl⟩
  refine ⟨J, ?_, ?_, fun o _ _ _ _ a => by rw [hJo o a, thr_ne a], fun f hf => by rw [hJ12, if_neg (by omega), if_neg (by omega), if_neg (by omega)], fun f _ => by rw [hJo _ (by simp), thr_ne (by simp)]⟩
  · have hs : ∀ k, k < 8 → ev (evm (d + 5)) 284 34 [some (aR (12, 0, 0)), some (aI x), some (aI y), some (aI (sm (fun c => if freeS V ((x, y), none, none, none) c = true then 1 <<< (N c &&& 31) else 0) k)), some (aI (N k))] [] [] (J, M, R, G) = ev (evm (d + 5)) 284 34 [some (aR (12, 0, 0)), some (aI x), some (aI y), some (aI (sm (fun c => if freeS V ((x, y), none, none, none) c = true then 1 <<< (N c &&& 31) else 0) (k + 1))), some (aI (N (k + 1)))] [] [] (J, M, R, G) := by
      intro k hk
      have e8 : ((8 : Int32) ≤ N k) = False := N_ge (a := k) (b := 8) hk (by decide)
      have hf := isServedFree_ok (d := d) (M := M) (G := G) hR (hV.fr (hJo (35, 0, 0) (by simp))) hQ qb_n hk
      rw [s284_34, sm_s]
      by_cases hx : freeS V ((x, y), none, none, none) k = true
      · rw [if_pos hx] at hf ⊢
        simp only [m284, s284_0, s284_1, s284_2, s284_3, s284_6, s284_9, s284_12, s284_13, s284_14, s284_15, s284_16, s284_19, s284_20, s284_21, s284_24, s284_25, s284_26, s284_29, s284_30, s284_31, s284_32, s284_36, s284_38, s284_41, s284_42, s284_43, s284_45, s284_48, s284_51, s284_52, s284_54, s284_55, s284_58, s284_59, s284_60, s284_61, s284_64, s284_67, s284_68, e8, hf, if_false, if_true, ck_v, ck_x, Option.toList, List.cons_append, List.nil_append, kil_nil, N_1, o10, o00, exN_0, exN_1, exN_2, exN_3, exN_4, exN_5, Ex]
      · rw [if_neg hx] at hf ⊢
        simp only [m284, s284_0, s284_1, s284_2, s284_3, s284_6, s284_9, s284_12, s284_13, s284_14, s284_15, s284_16, s284_19, s284_20, s284_21, s284_24, s284_25, s284_26, s284_29, s284_30, s284_31, s284_32, s284_36, s284_38, s284_41, s284_42, s284_43, s284_45, s284_48, s284_51, s284_52, s284_54, s284_55, s284_58, s284_59, s284_60, s284_61, s284_64, s284_67, s284_68, e8, hf, if_false, if_true, ck_v, ck_x, Option.toList, List.cons_append, List.nil_append, kil_nil, N_1, o10, o00, exN_0, exN_1, exN_2, exN_3, exN_4, exN_5, Ex]
    have e8 : ((8 : Int32) ≤ N 8) = True := N_ge1 (a := 8) (b := 8) (Nat.le_refl _) (by decide)
    rw [m284]
    simp only [s284_0, s284_1, s284_2, s284_3, s284_6, s284_9, s284_12, s284_13, s284_14, s284_15, s284_16, s284_19, s284_20, s284_21, s284_24, s284_25, s284_26, s284_29, s284_30, s284_31, s284_32, isPoint_ok, if_pos h1, checked_1, ite_le, l00, if_false, if_true, ck_v, ck_x, Option.toList, List.cons_append, List.nil_append, kil_nil, N_1, o10, o00, exN_0, exN_1, exN_2, exN_3, exN_4, exN_5, Ex]
    rw [← hJ]
    refine (iter (f := fun k => ev (evm (d + 5)) 284 34 [some (aR (12, 0, 0)), some (aI x), some (aI y), some (aI (sm (fun c => if freeS V ((x, y), none, none, none) c = true then 1 <<< (N c &&& 31) else 0) k)), some (aI (N k))] [] [] (J, M, R, G)) hs).trans ?_
    rw [s284_34]
    simp only [m284, s284_0, s284_1, s284_2, s284_3, s284_6, s284_9, s284_12, s284_13, s284_14, s284_15, s284_16, s284_19, s284_20, s284_21, s284_24, s284_25, s284_26, s284_29, s284_30, s284_31, s284_32, s284_36, s284_38, s284_41, s284_42, s284_43, s284_45, s284_48, s284_51, s284_52, s284_54, s284_55, s284_58, s284_59, s284_60, s284_61, s284_64, s284_67, s284_68, e8, if_false, if_true, ck_v, ck_x, Option.toList, List.cons_append, List.nil_append, kil_nil, N_1, o10, o00, exN_0, exN_1, exN_2, exN_3, exN_4, exN_5, Ex]
  · rw [hJ12, if_neg (by decide), if_neg (by decide), if_neg (by decide)]
    exact thr_at
theorem openChannelsM_no {x y : Int32} (h1 : ¬ (rg x 0 99 ∧ rg y 0 99)) : evm (d + 6) 284 [aR (12, 0, 0), aI x, aI y] (I, M, R, G) = some (.inl (some (aI 0)), (thr I 1, M, R, G)) := by
  rw [m284]
  simp only [s284_0, s284_1, s284_2, s284_3, s284_6, s284_9, s284_12, s284_13, s284_14, s284_15, s284_16, s284_19, s284_20, s284_21, s284_24, s284_25, s284_26, s284_29, s284_30, s284_31, s284_32, isPoint_ok, if_neg h1, checked_0, ite_le, o01, if_false, if_true, ck_v, ck_x, Option.toList, List.cons_append, List.nil_append, kil_nil, N_1, o10, o00, exN_0, exN_1, exN_2, exN_3, exN_4, exN_5, Ex]
theorem movesForM_ok {x y : Int32} {r : Pln} (hR : RF R) (hV : MV I V) (h1 : rg x 0 99 ∧ rg y 0 99) (hp : planF ((x, y), none, none, none) V = some r) : ∃ I', evm (d + 11) 285 [aR (12, 0, 0), aI x, aI y] (I, M, R, G) = some (.inl (some (aI (N r.1.length))), (thr I' 0, M, R, G)) ∧ FPF (thr I 0) I' := by
  have h := planFor_ok (d := d) (M := M) (G := G) (x := x) (y := y) (s := none) (w := none) (t := none) hR (hV.thr (x := 0)) qb_n
  rw [hp] at h
  obtain ⟨I1, e1, f1, g1⟩ := h
  have hlen : r.1.length < 3 := by
    obtain ⟨l, -, h2, h3⟩ := gs_some hp
    rw [(dfs_val h3).1]; omega
  have e1' : evm (d + 10) 226 [aR (12, 0, 0), aI x, aI y, aI (-1), aI (-1), aI (-1)] (thr I 0, M, R, G) = some (.inl (some (aI (N r.1.length))), (I1, M, R, G)) := e1
  refine ⟨I1, ?_, f1⟩
  simp only [m285, s285_0, s285_1, s285_2, s285_3, s285_6, s285_9, s285_12, s285_13, s285_14, s285_15, s285_16, s285_17, s285_18, s285_19, s285_20, s285_23, s285_24, s285_25, s285_26, s285_29, s285_30, s285_33, s285_34, s285_37, s285_38, isPoint_ok, if_pos h1, checked_1, ite_le, l00, e1', N_neg (show r.1.length < 2147483648 by omega), if_false, if_true, ck_v, ck_x, Option.toList, List.cons_append, List.nil_append, kil_nil, N_1, o10, o00, exN_0, exN_1, exN_2, exN_3, exN_4, exN_5, Ex]
theorem movesForM_no {x y : Int32} (hR : RF R) (hV : MV I V) (h1 : rg x 0 99 ∧ rg y 0 99) (hp : planF ((x, y), none, none, none) V = none) : ∃ I' v, evm (d + 11) 285 [aR (12, 0, 0), aI x, aI y] (I, M, R, G) = some (.inl (some (aI v)), (thr I' 2, M, R, G)) ∧ FPF (thr I 0) I' := by
  have h := planFor_ok (d := d) (M := M) (G := G) (x := x) (y := y) (s := none) (w := none) (t := none) hR (hV.thr (x := 0)) qb_n
  rw [hp] at h
  obtain ⟨I1, e1, f1⟩ := h
  have e1' : evm (d + 10) 226 [aR (12, 0, 0), aI x, aI y, aI (-1), aI (-1), aI (-1)] (thr I 0, M, R, G) = some (.inl (some (aI (-1))), (I1, M, R, G)) := e1
  refine ⟨I1, -1, ?_, f1⟩
  simp only [m285, s285_0, s285_1, s285_2, s285_3, s285_6, s285_9, s285_12, s285_13, s285_14, s285_15, s285_16, s285_17, s285_18, s285_19, s285_20, s285_23, s285_24, s285_25, s285_26, s285_29, s285_30, s285_33, s285_34, s285_37, s285_38, isPoint_ok, if_pos h1, checked_1, ite_le, l00, e1', m1n, if_false, if_true, ck_v, ck_x, Option.toList, List.cons_append, List.nil_append, kil_nil, N_1, o10, o00, exN_0, exN_1, exN_2, exN_3, exN_4, exN_5, Ex]
theorem movesForM_no1 {x y : Int32} (h1 : ¬ (rg x 0 99 ∧ rg y 0 99)) : evm (d + 11) 285 [aR (12, 0, 0), aI x, aI y] (I, M, R, G) = some (.inl (some (aI 0)), (thr I 1, M, R, G)) := by
  simp only [m285, s285_0, s285_1, s285_2, s285_3, s285_6, s285_9, s285_12, s285_13, s285_14, s285_15, s285_16, s285_17, s285_18, s285_19, s285_20, s285_23, s285_24, s285_25, s285_26, s285_29, s285_30, s285_33, s285_34, s285_37, s285_38, isPoint_ok, if_neg h1, checked_0, ite_le, o01, if_false, if_true, ck_v, ck_x, Option.toList, List.cons_append, List.nil_append, kil_nil, N_1, o10, o00, exN_0, exN_1, exN_2, exN_3, exN_4, exN_5, Ex]
theorem movesForQM_ok {x y : Int32} {o : Option Out} (h : evm (d + 11) 285 [aR (12, 0, 0), aI x, aI y] (I, M, R, G) = o) {v : AV} {S : SS} (ho : o = some (.inl (some v), S)) (hv : ∃ i, v = aI i) : evm (d + 12) 286 [aR (12, 0, 0), aI x, aI y] (I, M, R, G) = o := by
  subst ho
  obtain ⟨i, rfl⟩ := hv
  simp only [m286, s286_0, s286_1, s286_2, s286_3, s286_6, h, if_false, if_true, ck_v, ck_x, Option.toList, List.cons_append, List.nil_append, kil_nil, N_1, o10, o00, exN_0, exN_1, exN_2, exN_3, exN_4, exN_5, Ex]
theorem MR.license {x y days : Int32} {r : Pln} {p : Nat → Int32} (hR : RF R) (h : MR I B hs sn) (h1 : rg x 0 99 ∧ rg y 0 99) (h2 : rg days 1 365) (h3 : vn B.1 < 7) (hp : planF ((x, y), none, none, none) B.1 = some r) (hpr : PR B.1 r.1 p) (hW : WV (addB (mvB B r.1) x y (N r.2) (bday B + days) true).1) : ∃ I', evm (d + 11) 223 [aR (12, 0, 0), aI x, aI y, aI days] (I, M, R, G) = some (.inl (some (aI (bnext B))), (I', M, R, G)) ∧ I' (12, 0, 0) 7 = 0 ∧ MR I' (etL (vn B.1 + 1) (addB (planB (mvB B r.1) (N r.1.length) p) x y (N r.2) (bday B + days) true)) (kph B hs) sn ∧ FM I I' := by
  have hq := planFor_ok (d := d) (M := M) (G := G) (x := x) (y := y) (s := none) (w := none) (t := none) hR (h.th (x := 0)).1.mv qb_n
  rw [hp] at hq
  obtain ⟨I1, e1, f1, g0, g1⟩ := hq
  have hlen : r.1.length < 3 := by
    obtain ⟨l, -, h2, h3⟩ := gs_some hp
    rw [(dfs_val h3).1]; omega
  have e1' : evm (d + 10) 226 [aR (12, 0, 0), aI x, aI y, aI (-1), aI (-1), aI (-1)] (thr I 0, M, R, G) = some (.inl (some (aI (N r.1.length))), (I1, M, R, G)) := e1
  have m1 := ((h.th (x := 0)).pf f1).th (x := 0)
  obtain ⟨I3, e3, m3, f3, k3⟩ := MR.keep (d := d + 8) (M := M) (G := G) hR m1
  obtain ⟨I4, e4, w4, f4⟩ := moves_ok (d := d + 7) (M := M) (G := G) (ms := r.1) (p := p) hR (by omega) m3.1 hpr (fun i k e he => by
    obtain ⟨c1, c2, c3⟩ := g1 i k e he
    rw [f3 _ (by simp) (by simp), f3 _ (by simp) (by simp), thr_ne (by simp), thr_ne (by simp)]
    exact ⟨c1, c2, c3⟩)
  have en4 : vn (planB (mvB B r.1) (N r.1.length) p).1 = vn B.1 := by
    show vn (mvB B r.1).1 = _
    rw [mvB_eq]; exact mvV_n _ _
  have ed4 : bday (planB (mvB B r.1) (N r.1.length) p) = bday B ∧ bnext (planB (mvB B r.1) (N r.1.length) p) = bnext B := by
    show bday (mvB B r.1) = _ ∧ bnext (mvB B r.1) = _
    rw [mvB_eq]; exact ⟨rfl, rfl⟩
  obtain ⟨I5, e5, w5, f5⟩ := adds_ok (d := d + 8) (M := M) (G := G) (x := x) (y := y) (c := N r.2) (days := days) (l := 1) hR w4 (by rw [en4]; exact h3) (Or.inr rfl)
  rw [ed4.1, show decide ((1 : Int32) = 1) = true from by decide] at w5
  rw [ed4.2] at e5
  obtain ⟨I6, e6, w6, f6⟩ := endsTrials_ok (d := d + 2) (M := M) (G := G) hR w5 hW
  have en5 : vn (addB (planB (mvB B r.1) (N r.1.length) p) x y (N r.2) (bday B + days) true).1 = vn B.1 + 1 := by
    show vn (planB (mvB B r.1) (N r.1.length) p).1 + 1 = _
    rw [en4]
  rw [en5] at w6
  have ff : F35 I3 I6 := (F35.tr f4 f5).tr f6
  have h14 : I4 (12, 0, 0) 14 = N r.2 := by rw [f4 _ (by simp), k3 14 (by decide), thr_o (by decide)]; exact g0
  have e7 : (N (vn B.1) = 7) = False := by
    have : (N (vn B.1) = N 7) = (vn B.1 = 7) := N_inj (by omega) (by decide)
    rw [show (7 : Int32) = N 7 from rfl, this]
    exact eq_false (by omega)
  refine ⟨I6, ?_, ?_, m3.mod ff w6, (((thr_fm.tr f1.fm).tr thr_fm).tr (keep_fm f3)).tr ff.fm⟩
  · simp only [m223, s223_0, s223_1, s223_2, s223_3, s223_6, s223_9, s223_10, s223_11, s223_14, s223_17, s223_20, s223_21, s223_24, s223_25, s223_28, s223_30, s223_31, s223_33, s223_36, s223_37, s223_40, s223_41, s223_44, s223_45, s223_48, s223_51, s223_52, s223_53, s223_54, s223_55, s223_56, s223_57, s223_58, s223_59, s223_62, s223_64, s223_65, s223_67, s223_70, s223_71, s223_74, s223_75, s223_78, s223_79, s223_82, s223_85, s223_86, s223_87, s223_88, s223_91, s223_92, s223_94, s223_97, s223_98, s223_99, s223_100, s223_101, s223_104, s223_105, s223_106, s223_109, s223_111, s223_112, s223_115, s223_117, isPoint_ok, if_pos h1, in_ok, if_pos h2, hR.m.1, kn7, cl7, ag35, h.1.2.2.1, e7, ite_le, l00, t77, e1', N_neg (show r.1.length < 2147483648 by omega), e3, e4, h14, e5, e6, if_false, if_true, ck_v, ck_x, Option.toList, List.cons_append, List.nil_append, kil_nil, N_1, o10, o00, exN_0, exN_1, exN_2, exN_3, exN_4, exN_5, Ex]
  · rw [ff _ (by simp), k3 7 (by decide), thr_at]
theorem licenseM_no1 {x y days : Int32} (h : ¬ ((rg x 0 99 ∧ rg y 0 99) ∧ rg days 1 365)) : evm (d + 11) 223 [aR (12, 0, 0), aI x, aI y, aI days] (I, M, R, G) = some (.inl (some (aI 0)), (thr I 1, M, R, G)) := by
  by_cases h1 : rg x 0 99 ∧ rg y 0 99
  · have h2 : ¬ rg days 1 365 := fun q => h ⟨h1, q⟩
    simp only [m223, s223_0, s223_1, s223_2, s223_3, s223_6, s223_9, s223_10, s223_11, s223_14, s223_17, s223_20, s223_21, s223_24, s223_25, s223_28, s223_30, s223_31, s223_33, s223_36, s223_37, s223_40, s223_41, s223_44, s223_45, s223_48, s223_51, s223_52, s223_53, s223_54, s223_55, s223_56, s223_57, s223_58, s223_59, s223_62, s223_64, s223_65, s223_67, s223_70, s223_71, s223_74, s223_75, s223_78, s223_79, s223_82, s223_85, s223_86, s223_87, s223_88, s223_91, s223_92, s223_94, s223_97, s223_98, s223_99, s223_100, s223_101, s223_104, s223_105, s223_106, s223_109, s223_111, s223_112, s223_115, s223_117, isPoint_ok, if_pos h1, in_ok, if_neg h2, ite_le, o01, t77, if_false, if_true, ck_v, ck_x, Option.toList, List.cons_append, List.nil_append, kil_nil, N_1, o10, o00, exN_0, exN_1, exN_2, exN_3, exN_4, exN_5, Ex]
  · simp only [m223, s223_0, s223_1, s223_2, s223_3, s223_6, s223_9, s223_10, s223_11, s223_14, s223_17, s223_20, s223_21, s223_24, s223_25, s223_28, s223_30, s223_31, s223_33, s223_36, s223_37, s223_40, s223_41, s223_44, s223_45, s223_48, s223_51, s223_52, s223_53, s223_54, s223_55, s223_56, s223_57, s223_58, s223_59, s223_62, s223_64, s223_65, s223_67, s223_70, s223_71, s223_74, s223_75, s223_78, s223_79, s223_82, s223_85, s223_86, s223_87, s223_88, s223_91, s223_92, s223_94, s223_97, s223_98, s223_99, s223_100, s223_101, s223_104, s223_105, s223_106, s223_109, s223_111, s223_112, s223_115, s223_117, isPoint_ok, if_neg h1, ite_le, o01, t77, if_false, if_true, ck_v, ck_x, Option.toList, List.cons_append, List.nil_append, kil_nil, N_1, o10, o00, exN_0, exN_1, exN_2, exN_3, exN_4, exN_5, Ex]
theorem MR.license_no2 {x y days : Int32} (hR : RF R) (h : MR I B hs sn) (h1 : rg x 0 99 ∧ rg y 0 99) (h2 : rg days 1 365) (h3 : ¬ vn B.1 < 7) : evm (d + 11) 223 [aR (12, 0, 0), aI x, aI y, aI days] (I, M, R, G) = some (.inl (some (aI 0)), (thr I 2, M, R, G)) := by
  have h7 := h.1.2.2.2.1
  have e7 : (N (vn B.1) = 7) = True := by
    rw [show vn B.1 = 7 by omega]
    exact eq_true rfl
  simp only [m223, s223_0, s223_1, s223_2, s223_3, s223_6, s223_9, s223_10, s223_11, s223_14, s223_17, s223_20, s223_21, s223_24, s223_25, s223_28, s223_30, s223_31, s223_33, s223_36, s223_37, s223_40, s223_41, s223_44, s223_45, s223_48, s223_51, s223_52, s223_53, s223_54, s223_55, s223_56, s223_57, s223_58, s223_59, s223_62, s223_64, s223_65, s223_67, s223_70, s223_71, s223_74, s223_75, s223_78, s223_79, s223_82, s223_85, s223_86, s223_87, s223_88, s223_91, s223_92, s223_94, s223_97, s223_98, s223_99, s223_100, s223_101, s223_104, s223_105, s223_106, s223_109, s223_111, s223_112, s223_115, s223_117, isPoint_ok, if_pos h1, in_ok, if_pos h2, hR.m.1, kn7, cl7, ag35, h.1.2.2.1, e7, ite_le, o02, t77, if_false, if_true, ck_v, ck_x, Option.toList, List.cons_append, List.nil_append, kil_nil, N_1, o10, o00, exN_0, exN_1, exN_2, exN_3, exN_4, exN_5, Ex]
theorem MR.license_no3 {x y days : Int32} (hR : RF R) (h : MR I B hs sn) (h1 : rg x 0 99 ∧ rg y 0 99) (h2 : rg days 1 365) (h3 : vn B.1 < 7) (hp : planF ((x, y), none, none, none) B.1 = none) : ∃ I', evm (d + 11) 223 [aR (12, 0, 0), aI x, aI y, aI days] (I, M, R, G) = some (.inl (some (aI 0)), (thr I' 3, M, R, G)) ∧ FPF (thr I 0) I' := by
  have hq := planFor_ok (d := d) (M := M) (G := G) (x := x) (y := y) (s := none) (w := none) (t := none) hR (h.th (x := 0)).1.mv qb_n
  rw [hp] at hq
  obtain ⟨I1, e1, f1⟩ := hq
  have e1' : evm (d + 10) 226 [aR (12, 0, 0), aI x, aI y, aI (-1), aI (-1), aI (-1)] (thr I 0, M, R, G) = some (.inl (some (aI (-1))), (I1, M, R, G)) := e1
  have e7 : (N (vn B.1) = 7) = False := by
    have : (N (vn B.1) = N 7) = (vn B.1 = 7) := N_inj (by omega) (by decide)
    rw [show (7 : Int32) = N 7 from rfl, this]
    exact eq_false (by omega)
  refine ⟨I1, ?_, f1⟩
  simp only [m223, s223_0, s223_1, s223_2, s223_3, s223_6, s223_9, s223_10, s223_11, s223_14, s223_17, s223_20, s223_21, s223_24, s223_25, s223_28, s223_30, s223_31, s223_33, s223_36, s223_37, s223_40, s223_41, s223_44, s223_45, s223_48, s223_51, s223_52, s223_53, s223_54, s223_55, s223_56, s223_57, s223_58, s223_59, s223_62, s223_64, s223_65, s223_67, s223_70, s223_71, s223_74, s223_75, s223_78, s223_79, s223_82, s223_85, s223_86, s223_87, s223_88, s223_91, s223_92, s223_94, s223_97, s223_98, s223_99, s223_100, s223_101, s223_104, s223_105, s223_106, s223_109, s223_111, s223_112, s223_115, s223_117, isPoint_ok, if_pos h1, in_ok, if_pos h2, hR.m.1, kn7, cl7, ag35, h.1.2.2.1, e7, ite_le, l00, t77, e1', m1n, o03, if_false, if_true, ck_v, ck_x, Option.toList, List.cons_append, List.nil_append, kil_nil, N_1, o10, o00, exN_0, exN_1, exN_2, exN_3, exN_4, exN_5, Ex]
end MLIC
