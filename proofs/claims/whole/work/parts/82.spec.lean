/-! THE METHODS' MEANING: the class's license, change, complain -/
theorem val_lt {q : Qy} : ∀ {ms : List (Nat × Nat)} {V : Vw} {i k e : Nat}, val q V ms → ms[i]? = some (k, e) → k < vn V ∧ e < 8
  | [], V, i, k, e, _, h => by simp at h
  | m :: ms, V, i, k, e, hv, h => by
    obtain ⟨h1, h2, h3, h4⟩ := hv
    cases i with
    | zero =>
      simp only [List.getElem?_cons_zero, Option.some.injEq] at h
      subst h
      exact ⟨h1, h2⟩
    | succ i =>
      rw [List.getElem?_cons_succ] at h
      exact val_lt (V := chV V m.1 m.2) h4 h
theorem planF_val {q : Qy} {V : Vw} {r : Pln} (h : planF q V = some r) : r.1.length < 3 ∧ bestC (mvV V r.1) q = some r.2 ∧ val q V r.1 := by
  obtain ⟨l, -, h2, h3⟩ := gs_some h
  obtain ⟨a1, a2, a3⟩ := dfs_val h3
  exact ⟨by rw [a1]; omega, a2, a3⟩
theorem lic_mv {x y c e v : Int32} {l : Bool} {p : Nat → Int32} {mv : Int32} : ∀ (ms : List (Nat × Nat)) (B : Bk), (∀ m, m ∈ ms → m.1 < vn B.1) → planB (fdB (mvB (addB B x y c e l) ms) (vn B.1) 3 v) mv p = addB (planB (mvB B ms) mv p) x y v e l
  | [], B, _ => by
    show planB (fdB (addB B x y c e l) (vn B.1) 3 v) mv p = _
    rw [fd_add]
    rfl
  | m :: ms, B, h => by
    show planB (fdB (mvB (fdB (addB B x y c e l) m.1 3 (N m.2)) ms) (vn B.1) 3 v) mv p = addB (planB (mvB (fdB B m.1 3 (N m.2)) ms) mv p) x y v e l
    rw [fd_add' (h m (List.mem_cons_self))]
    exact lic_mv ms (fdB B m.1 3 (N m.2)) (fun m' hm' => h m' (List.mem_cons_of_mem _ hm'))
theorem etL_next : ∀ (i : Nat) (B : Bk), bnext (etL i B) = bnext B
  | 0, B => rfl
  | i + 1, B => by
    unfold etL
    rw [etL_next i]
    split <;> rfl
theorem mg_tab : ∀ u, u < 8 → ∀ w, w < 6 → (N u - N w ≤ 0) = (N u < N w + 1) := by
  have t : ∀ u, u < 8 → ∀ w, w < 6 → decide (N u - N w ≤ 0) = decide (N u < N w + 1) := by decide +kernel
  intro u hu w hw
  have := t u hu w hw
  exact propext (decide_eq_decide.mp this)
section CLIC
variable {d : Nat} {I I' I'' : OId → Nat → Int32} {M R : OId → Nat → AV} {G : SG} {V : Vw} {q : Qy} {B : Bk} {hs : List Bk} {sn : Option Bk}
theorem try_at (hR : RF R) (hW : WV V) (hQ : QB V q) (hN : NT I V (Ls V (qs q))) (hS : SV I V q (Ls V (qs q))) : ∀ l, l < 3 → I (7, 8, 0) 0 = N l → match dfs q l V with
    | none => ∃ I', evm (d + 8) 69 [aR (8, 0, 0), aI 0] (I, M, R, G) = some (.inl (some (aI 0)), (I', M, R, G)) ∧ I' (28, 0, 0) = I (28, 0, 0) ∧ FT 0 I I'
    | some r => ∃ I', evm (d + 8) 69 [aR (8, 0, 0), aI 0] (I, M, R, G) = some (.inl (some (aI 1)), (I', M, R, G)) ∧ I' (28, 0, 0) = I (28, 0, 0) ∧ FT 0 I I' ∧ GT 0 V r I'
  | 0, _, hp => try_ok (d := d + 4) hR 0 0 V I hW hQ hN hS hp (by decide)
  | 1, _, hp => try_ok (d := d + 2) hR 1 0 V I hW hQ hN hS hp (by decide)
  | 2, _, hp => try_ok (d := d) hR 2 0 V I hW hQ hN hS hp (by decide)
  | n + 3, h, _ => by omega
theorem find_plan (hR : RF R) (hW : WV V) (hQ : QB V q) (hN : NT I V (Ls V (qs q))) (hS : SV I V q (Ls V (qs q))) : match planF q V with
    | none => ∃ I', evm (d + 9) 68 [aR (8, 0, 0)] (I, M, R, G) = some (.inl (some (aI 0)), (I', M, R, G)) ∧ FS I I'
    | some r => ∃ I', evm (d + 9) 68 [aR (8, 0, 0)] (I, M, R, G) = some (.inl (some (aI 1)), (I', M, R, G)) ∧ FS I I' ∧ I' (7, 8, 0) 0 = N r.1.length ∧ GT 0 V r I' := by
  have hl : ∀ (r l : Nat) (J : OId → Nat → Int32), l + r = 3 → NT J V (Ls V (qs q)) → SV J V q (Ls V (qs q)) → match gs (fun l => dfs q l V) r l with
      | none => ∃ I', ev (evm (d + 8)) 68 2 [some (aR (8, 0, 0)), some (aI (N l))] [] [] (J, M, R, G) = some (.inl (some (aI 0)), (I', M, R, G)) ∧ FS J I'
      | some r => ∃ I', ev (evm (d + 8)) 68 2 [some (aR (8, 0, 0)), some (aI (N l))] [] [] (J, M, R, G) = some (.inl (some (aI 1)), (I', M, R, G)) ∧ FS J I' ∧ I' (7, 8, 0) 0 = N r.1.length ∧ GT 0 V r I' := by
    intro r
    induction r with
    | zero =>
      intro l J hlr hN hS
      have e3 : l = 3 := by omega
      subst e3
      refine ⟨J, ?_, FS.rf⟩
      have e3 : ((2 : Int32) < N 3) = True := N_lt1 (a := 2) (b := 3) (by decide) (by decide)
      rw [s68_2]
      simp only [m68, s68_0, s68_1, s68_3, s68_4, s68_7, s68_8, s68_11, s68_12, s68_15, s68_16, s68_17, s68_20, s68_23, s68_24, s68_25, s68_28, s68_31, s68_32, e3, if_false, if_true, ck_v, ck_x, Option.toList, List.cons_append, List.nil_append, kil_nil, N_1, o10, o00, exN_0, exN_1, exN_2, exN_3, exN_4, exN_5, Ex, true_or]
    | succ r ih =>
      intro l J hlr hN hS
      have hl3 : l < 3 := by omega
      have e3 : ((2 : Int32) < N l) = False := by
        show (N 2 < N l) = False
        rw [N_lt (by decide) (by omega)]
        exact eq_false (by omega)
      have fP : FS J (setI J (7, 8, 0) 0 (N l)) := FS.rf.st (Or.inr (Or.inr (Or.inr ⟨rfl, by simp⟩)))
      have ht := try_at (d := d) (M := M) (G := G) hR hW hQ (hN.p8 (f := 0) (x := N l)) (hS.p8 (f := 0) (x := N l)) l hl3 (by rw [setI_at, if_pos rfl])
      unfold gs
      cases hd : dfs q l V with
      | some r' =>
        rw [hd] at ht
        obtain ⟨I', e1, a1, a2, a3⟩ := ht
        refine ⟨I', ?_, fP.tr a2.fs, ?_, a3⟩
        · rw [s68_2]
          simp only [m68, s68_0, s68_1, s68_3, s68_4, s68_7, s68_8, s68_11, s68_12, s68_15, s68_16, s68_17, s68_20, s68_23, s68_24, s68_25, s68_28, s68_31, s68_32, e3, hR.s.2.1, e1, if_false, if_true, ck_v, ck_x, Option.toList, List.cons_append, List.nil_append, kil_nil, N_1, o10, o00, exN_0, exN_1, exN_2, exN_3, exN_4, exN_5, Ex, or_true]
        · rw [a2.2.1 0 (by decide), setI_at, if_pos rfl, (dfs_val hd).1]
      | none =>
        rw [hd] at ht
        obtain ⟨I', e1, a1, a2⟩ := ht
        have hn := ih (l + 1) I' (by omega) ((hN.p8 (f := 0) (x := N l)).ft a2 a1) ((hS.p8 (f := 0) (x := N l)).ft a2)
        have hrun : ev (evm (d + 8)) 68 2 [some (aR (8, 0, 0)), some (aI (N l))] [] [] (J, M, R, G) = ev (evm (d + 8)) 68 2 [some (aR (8, 0, 0)), some (aI (N (l + 1)))] [] [] (I', M, R, G) := by
          rw [s68_2]
          simp only [m68, s68_0, s68_1, s68_3, s68_4, s68_7, s68_8, s68_11, s68_12, s68_15, s68_16, s68_17, s68_20, s68_23, s68_24, s68_25, s68_28, s68_31, s68_32, e3, hR.s.2.1, e1, if_false, if_true, ck_v, ck_x, Option.toList, List.cons_append, List.nil_append, kil_nil, N_1, o10, o00, exN_0, exN_1, exN_2, exN_3, exN_4, exN_5, Ex]
        rw [hrun]
        cases hg : gs (fun l => dfs q l V) r (l + 1) with
        | some r' =>
          rw [hg] at hn
          obtain ⟨I3, e4, c1, c2⟩ := hn
          exact ⟨I3, e4, (fP.tr a2.fs).tr c1, c2⟩
        | none =>
          rw [hg] at hn
          obtain ⟨I3, e4, c1⟩ := hn
          exact ⟨I3, e4, (fP.tr a2.fs).tr c1⟩
  have h := hl 3 0 I (by decide) hN hS
  have hrun : evm (d + 9) 68 [aR (8, 0, 0)] (I, M, R, G) = ev (evm (d + 8)) 68 2 [some (aR (8, 0, 0)), some (aI (N 0))] [] [] (I, M, R, G) := by
    rw [m68]
    simp only [s68_0, s68_1, kil_nil]
    rfl
  rw [hrun]
  exact h
theorem findPlan_ok {r : Pln} (hR : RF R) (hW : WV V) (hQ : QB V q) (hN : NT I V (Ls V (qs q))) (hS : SV I V q (Ls V (qs q))) (hp : planF q V = some r) : ∃ I', evm (d + 10) 67 [aR (11, 0, 0)] (I, M, R, G) = some (.inl none, (I', M, R, G)) ∧ FS I I' ∧ I' (7, 8, 0) 0 = N r.1.length ∧ GT 0 V r I' := by
  have h := find_plan (d := d) (M := M) (G := G) hR hW hQ hN hS
  rw [hp] at h
  obtain ⟨I', e1, a1, a2, a3⟩ := h
  refine ⟨I', ?_, a1, a2, a3⟩
  simp only [m67, s67_0, s67_1, s67_4, s67_7, s67_10, s67_13, s67_21, hR.o.2.2.2.1, e1, if_false, if_true, ck_v, ck_x, Option.toList, List.cons_append, List.nil_append, kil_nil, N_1, o10, o00, exN_0, exN_1, exN_2, exN_3, exN_4, exN_5, Ex]
theorem findPlan_no (hR : RF R) (hW : WV V) (hQ : QB V q) (hN : NT I V (Ls V (qs q))) (hS : SV I V q (Ls V (qs q))) (hp : planF q V = none) : ∃ I', evm (d + 10) 67 [aR (11, 0, 0)] (I, M, R, G) = Ex 2 (I', M, R, G) ∧ FS I I' := by
  have h := find_plan (d := d) (M := M) (G := G) hR hW hQ hN hS
  rw [hp] at h
  obtain ⟨I', e1, a1⟩ := h
  refine ⟨I', ?_, a1⟩
  simp only [m67, s67_0, s67_1, s67_4, s67_7, s67_10, s67_13, s67_21, hR.o.2.2.2.1, e1, if_false, if_true, ck_v, ck_x, Option.toList, List.cons_append, List.nil_append, kil_nil, N_1, o10, o00, exN_0, exN_1, exN_2, exN_3, exN_4, exN_5, Ex]
theorem pr_of {r : Pln} (hlen : r.1.length < 3) (h : GT 0 V r I) : PR V r.1 (plI I) := fun i k e he => by
  obtain ⟨b1, b2, b3⟩ := h.2 i k e he
  rw [Nat.zero_add] at b1 b2 b3
  refine ⟨?_, ?_, ?_⟩
  · unfold plI
    rw [if_pos (by omega), show 3 * i / 3 = i by omega]
    exact b1
  · unfold plI
    rw [if_neg (by omega), if_pos (by omega), show (3 * i + 1) / 3 = i by omega]
    exact b2
  · unfold plI
    rw [if_neg (by omega), if_neg (by omega), show (3 * i + 2) / 3 = i by omega]
    exact b3
theorem nb8 {o : OId} (h : o = (7, 8, 0) ∨ o = (22, 8, 0) ∨ o = (23, 8, 0) ∨ o = (24, 8, 0)) : ¬ crO o := fun hq => by
  rcases hq with ⟨j, hj, h1, -⟩ | rfl | rfl
  · rcases h with rfl | rfl | rfl | rfl <;> (simp at h1; omega)
  · simp at h
  · simp at h
theorem plI_fb (h : FB I I') : plI I' = plI I := by
  unfold plI
  rw [h _ (nb8 (by simp)), h _ (nb8 (by simp)), h _ (nb8 (by simp))]
theorem CR.openChannels {x y : Int32} (hR : RF R) (h : CR I B hs sn) (hW : WV B.1) (h1 : rg x 0 99 ∧ rg y 0 99) : ∃ I', evm (d + 7) 137 [aR (11, 0, 0), aI x, aI y] (I, M, R, G) = some (.inl (some (aI (N (omk B.1 ((x, y), none, none, none) (Ls B.1 none))))), (I', M, R, G)) ∧ FS I I' := by
  obtain ⟨I1, e1, n1, s1, f1⟩ := serveNew_ok (d := d) (M := M) (G := G) (x := x) (y := y) hR hW h.1.1
  have e2 := openToServed_ok (d := d + 4) (M := M) (G := G) hR n1 s1 (sb_of hW qb_n) (ls_7 h.1.1.2.2.1) (fun c hc => (by cases hc))
  refine ⟨I1, ?_, f1⟩
  simp only [m137, s137_0, s137_1, s137_2, s137_5, s137_6, s137_9, s137_10, s137_13, s137_14, s137_15, s137_18, s137_19, s137_22, s137_25, checkPoint_ok, if_pos h1, hR.o.1, hR.o.2.2.2.1, e1, e2, if_false, if_true, ck_v, ck_x, Option.toList, List.cons_append, List.nil_append, kil_nil, N_1, o10, o00, exN_0, exN_1, exN_2, exN_3, exN_4, exN_5, Ex]
theorem openChannels_no {x y : Int32} (h1 : ¬ (rg x 0 99 ∧ rg y 0 99)) : evm (d + 7) 137 [aR (11, 0, 0), aI x, aI y] (I, M, R, G) = Ex 0 (I, M, R, G) := by
  simp only [m137, s137_0, s137_1, s137_2, s137_5, s137_6, s137_9, s137_10, s137_13, s137_14, s137_15, s137_18, s137_19, s137_22, s137_25, checkPoint_ok, if_neg h1, if_false, if_true, ck_v, ck_x, Option.toList, List.cons_append, List.nil_append, kil_nil, N_1, o10, o00, exN_0, exN_1, exN_2, exN_3, exN_4, exN_5, Ex]
theorem CR.movesFor {x y : Int32} {r : Pln} (hR : RF R) (h : CR I B hs sn) (hW : WV B.1) (h1 : rg x 0 99 ∧ rg y 0 99) (hp : planF ((x, y), none, none, none) B.1 = some r) : ∃ I', evm (d + 11) 139 [aR (11, 0, 0), aI x, aI y] (I, M, R, G) = some (.inl (some (aI (N r.1.length))), (I', M, R, G)) ∧ FS I I' := by
  obtain ⟨I1, e1, n1, s1, f1⟩ := serveNew_ok (d := d + 4) (M := M) (G := G) (x := x) (y := y) hR hW h.1.1
  obtain ⟨I2, e2, f2, p2, -⟩ := findPlan_ok (d := d) (M := M) (G := G) hR hW qb_n n1 s1 hp
  refine ⟨I2, ?_, f1.tr f2⟩
  simp only [m139, s139_0, s139_1, s139_2, s139_5, s139_6, s139_9, s139_10, s139_13, s139_14, s139_15, s139_18, s139_19, s139_22, s139_23, s139_26, s139_29, s139_32, checkPoint_ok, if_pos h1, hR.o.1, hR.o.2.2.2.1, hR.s.2.1, e1, e2, p2, if_false, if_true, ck_v, ck_x, Option.toList, List.cons_append, List.nil_append, kil_nil, N_1, o10, o00, exN_0, exN_1, exN_2, exN_3, exN_4, exN_5, Ex]
theorem CR.movesFor_no {x y : Int32} (hR : RF R) (h : CR I B hs sn) (hW : WV B.1) (h1 : rg x 0 99 ∧ rg y 0 99) (hp : planF ((x, y), none, none, none) B.1 = none) : ∃ I', evm (d + 11) 139 [aR (11, 0, 0), aI x, aI y] (I, M, R, G) = Ex 2 (I', M, R, G) ∧ FS I I' := by
  obtain ⟨I1, e1, n1, s1, f1⟩ := serveNew_ok (d := d + 4) (M := M) (G := G) (x := x) (y := y) hR hW h.1.1
  obtain ⟨I2, e2, f2⟩ := findPlan_no (d := d) (M := M) (G := G) hR hW qb_n n1 s1 hp
  refine ⟨I2, ?_, f1.tr f2⟩
  simp only [m139, s139_0, s139_1, s139_2, s139_5, s139_6, s139_9, s139_10, s139_13, s139_14, s139_15, s139_18, s139_19, s139_22, s139_23, s139_26, s139_29, s139_32, checkPoint_ok, if_pos h1, hR.o.1, hR.o.2.2.2.1, e1, e2, if_false, if_true, ck_v, ck_x, Option.toList, List.cons_append, List.nil_append, kil_nil, N_1, o10, o00, exN_0, exN_1, exN_2, exN_3, exN_4, exN_5, Ex]
theorem movesFor_no0 {x y : Int32} (h1 : ¬ (rg x 0 99 ∧ rg y 0 99)) : evm (d + 11) 139 [aR (11, 0, 0), aI x, aI y] (I, M, R, G) = Ex 0 (I, M, R, G) := by
  simp only [m139, s139_0, s139_1, s139_2, s139_5, s139_6, s139_9, s139_10, s139_13, s139_14, s139_15, s139_18, s139_19, s139_22, s139_23, s139_26, s139_29, s139_32, checkPoint_ok, if_neg h1, if_false, if_true, ck_v, ck_x, Option.toList, List.cons_append, List.nil_append, kil_nil, N_1, o10, o00, exN_0, exN_1, exN_2, exN_3, exN_4, exN_5, Ex]
/-- nothing has changed but what is the class's -/
def FA (I I' : OId → Nat → Int32) : Prop := ∀ o, ¬ crO o → ¬ srO o → I' o = I o
theorem FA.rf : FA I I := fun _ _ _ => rfl
theorem FA.tr (h : FA I I') (h' : FA I' I'') : FA I I'' := fun o a b => (h' o a b).trans (h o a b)
theorem FS.fa (h : FS I I') : FA I I' := fun o _ b => h o b
theorem FB.fa (h : FB I I') : FA I I' := fun o a _ => h o a
theorem CR.license {x y days : Int32} {r : Pln} (hR : RF R) (h : CR I B hs sn) (hW : WV B.1) (h1 : rg x 0 99 ∧ rg y 0 99) (h2 : rg days 1 365) (h3 : vn B.1 < 7) (hp : planF ((x, y), none, none, none) B.1 = some r) (hi : ∀ c, inj (addB B x y c (bday B + days) true).1) : ∃ I' p, evm (d + 11) 62 [aR (11, 0, 0), aI x, aI y, aI days] (I, M, R, G) = some (.inl (some (aI (bnext B))), (I', M, R, G)) ∧ PR B.1 r.1 p ∧ CR I' (etL (vn B.1 + 1) (addB (planB (mvB B r.1) (N r.1.length) p) x y (N r.2) (bday B + days) true)) (kph B hs) sn ∧ FA I I' := by
  obtain ⟨I1, e1, n1, s1, f1⟩ := serveNew_ok (d := d + 4) (M := M) (G := G) (x := x) (y := y) hR hW h.1.1
  obtain ⟨I2, e2, f2, p2, g2⟩ := findPlan_ok (d := d) (M := M) (G := G) hR hW qb_n n1 s1 hp
  obtain ⟨hlen, hbest, hval⟩ := planF_val hp
  have c2 := h.srch (f1.tr f2)
  obtain ⟨I3, e3, c3, f3⟩ := c2.keep (d := d + 7) (M := M) (G := G) hR
  have hb := append_ba (x := x) (y := y) (e := bday B + days) (t := 0) c3.1 h3
  have fa : Fr0 I3 (apI I3 (vn B.1) x y (bday B + days) 0) := fun o ho => apI_ne (by rintro rfl; exact ho ⟨rfl, by simp⟩) (by rintro rfl; exact ho ⟨rfl, by simp⟩)
  have f23 : FB I2 (apI I3 (vn B.1) x y (bday B + days) 0) := f3.tr fa.fb
  have epl := plI_fb f23
  have hmem : ∀ m, m ∈ r.1 → m.1 < vn B.1 := fun m hm => by
    obtain ⟨i, hi⟩ := List.mem_iff_getElem?.mp hm
    exact (val_lt (k := m.1) (e := m.2) hval hi).1
  have hPL : PLN (apI I3 (vn B.1) x y (bday B + days) 0) (addB B x y (I3 (10, 0, vn B.1) 3) (bday B + days) true).1 r.1 (N r.2) := by
    refine ⟨by omega, ?_, ?_, fun i k e he => ?_⟩
    · rw [f23 _ (nb8 (by simp))]; exact p2
    · rw [f23 _ (nb8 (by simp))]; exact g2.1
    · have hk := (val_lt hval he).1
      obtain ⟨b1, b2, b3⟩ := g2.2 i k e he
      rw [Nat.zero_add] at b1 b2 b3
      rw [f23 _ (nb8 (by simp)), f23 _ (nb8 (by simp))]
      refine ⟨Nat.lt_succ_of_lt hk, b1.trans ?_, b3⟩
      exact (if_neg (by omega)).symm
  rw [show decide (bb 0 = 0) = true from by decide] at hb
  obtain ⟨I5, e5, b5, f5⟩ := carryOut_ok (d := d + 4) (M := M) (G := G) (s := vn B.1) hR hb (hi _) (Nat.lt_succ_self _) hPL
  rw [epl] at b5
  have eco : coB (addB B x y (I3 (10, 0, vn B.1) 3) (bday B + days) true) r.1 (vn B.1) (N r.2) (plI I2) = etL (vn B.1 + 1) (addB (planB (mvB B r.1) (N r.1.length) (plI I2)) x y (N r.2) (bday B + days) true) := by
    unfold coB
    rw [lic_mv r.1 B hmem]
    rfl
  rw [eco] at b5
  refine ⟨I5, plI I2, ?_, pr_of hlen g2, c3.mod (fa.tr f5) b5, ((f1.tr f2).fa.tr f3.fa).tr (fa.tr f5).fb.fa⟩
  have e4 : I5 (4, 0, 0) 4 = bnext B := by
    have h9 := b5.2.2.1
    rw [etL_next] at h9
    have e9 : bnext (addB (planB (mvB B r.1) (N r.1.length) (plI I2)) x y (N r.2) (bday B + days) true) = bnext B + 1 := by
      show bnext (mvB B r.1) + 1 = _
      rw [mvB_eq]
    rw [e9] at h9
    exact (Int32.add_left_inj 1).mp h9
  simp only [m62, s62_0, s62_1, s62_2, s62_5, s62_6, s62_7, s62_10, s62_13, s62_14, s62_17, s62_18, s62_21, s62_22, s62_25, s62_26, s62_27, s62_30, s62_31, s62_34, s62_35, s62_38, s62_39, s62_42, s62_45, s62_46, s62_49, s62_50, s62_51, s62_52, s62_55, s62_58, s62_59, s62_60, s62_61, s62_64, s62_66, s62_67, s62_70, s62_71, s62_74, s62_77, s62_79, s62_82, s62_83, s62_86, s62_89, checkPoint_ok, checkRange_ok, checkRoom_ok hR h.1.1, if_pos h1, if_pos h2, if_pos h3, hR.o.1, hR.o.2.1, hR.o.2.2.2.1, hR.s.2.1, e1, e2, e3, c3.1.2.1, append_ok hR c3.1 h3 (Or.inl rfl), e5, e4, if_false, if_true, ck_v, ck_x, Option.toList, List.cons_append, List.nil_append, kil_nil, N_1, o10, o00, exN_0, exN_1, exN_2, exN_3, exN_4, exN_5, Ex]
theorem license_no0 {x y days : Int32} (h : ¬ ((rg x 0 99 ∧ rg y 0 99) ∧ rg days 1 365)) : evm (d + 11) 62 [aR (11, 0, 0), aI x, aI y, aI days] (I, M, R, G) = Ex 0 (I, M, R, G) := by
  by_cases h1 : rg x 0 99 ∧ rg y 0 99
  · have h2 : ¬ rg days 1 365 := fun q => h ⟨h1, q⟩
    simp only [m62, s62_0, s62_1, s62_2, s62_5, s62_6, s62_7, s62_10, s62_13, s62_14, s62_17, s62_18, s62_21, s62_22, s62_25, s62_26, s62_27, s62_30, s62_31, s62_34, s62_35, s62_38, s62_39, s62_42, s62_45, s62_46, s62_49, s62_50, s62_51, s62_52, s62_55, s62_58, s62_59, s62_60, s62_61, s62_64, s62_66, s62_67, s62_70, s62_71, s62_74, s62_77, s62_79, s62_82, s62_83, s62_86, s62_89, checkPoint_ok, checkRange_ok, if_pos h1, if_neg h2, if_false, if_true, ck_v, ck_x, Option.toList, List.cons_append, List.nil_append, kil_nil, N_1, o10, o00, exN_0, exN_1, exN_2, exN_3, exN_4, exN_5, Ex]
  · simp only [m62, s62_0, s62_1, s62_2, s62_5, s62_6, s62_7, s62_10, s62_13, s62_14, s62_17, s62_18, s62_21, s62_22, s62_25, s62_26, s62_27, s62_30, s62_31, s62_34, s62_35, s62_38, s62_39, s62_42, s62_45, s62_46, s62_49, s62_50, s62_51, s62_52, s62_55, s62_58, s62_59, s62_60, s62_61, s62_64, s62_66, s62_67, s62_70, s62_71, s62_74, s62_77, s62_79, s62_82, s62_83, s62_86, s62_89, checkPoint_ok, if_neg h1, if_false, if_true, ck_v, ck_x, Option.toList, List.cons_append, List.nil_append, kil_nil, N_1, o10, o00, exN_0, exN_1, exN_2, exN_3, exN_4, exN_5, Ex]
theorem CR.license_no1 {x y days : Int32} (hR : RF R) (h : CR I B hs sn) (h1 : rg x 0 99 ∧ rg y 0 99) (h2 : rg days 1 365) (h3 : ¬ vn B.1 < 7) : evm (d + 11) 62 [aR (11, 0, 0), aI x, aI y, aI days] (I, M, R, G) = Ex 1 (I, M, R, G) := by
  simp only [m62, s62_0, s62_1, s62_2, s62_5, s62_6, s62_7, s62_10, s62_13, s62_14, s62_17, s62_18, s62_21, s62_22, s62_25, s62_26, s62_27, s62_30, s62_31, s62_34, s62_35, s62_38, s62_39, s62_42, s62_45, s62_46, s62_49, s62_50, s62_51, s62_52, s62_55, s62_58, s62_59, s62_60, s62_61, s62_64, s62_66, s62_67, s62_70, s62_71, s62_74, s62_77, s62_79, s62_82, s62_83, s62_86, s62_89, checkPoint_ok, checkRange_ok, checkRoom_ok hR h.1.1, if_pos h1, if_pos h2, if_neg h3, if_false, if_true, ck_v, ck_x, Option.toList, List.cons_append, List.nil_append, kil_nil, N_1, o10, o00, exN_0, exN_1, exN_2, exN_3, exN_4, exN_5, Ex]
theorem CR.license_no2 {x y days : Int32} (hR : RF R) (h : CR I B hs sn) (hW : WV B.1) (h1 : rg x 0 99 ∧ rg y 0 99) (h2 : rg days 1 365) (h3 : vn B.1 < 7) (hp : planF ((x, y), none, none, none) B.1 = none) : ∃ I', evm (d + 11) 62 [aR (11, 0, 0), aI x, aI y, aI days] (I, M, R, G) = Ex 2 (I', M, R, G) ∧ FS I I' := by
  obtain ⟨I1, e1, n1, s1, f1⟩ := serveNew_ok (d := d + 4) (M := M) (G := G) (x := x) (y := y) hR hW h.1.1
  obtain ⟨I2, e2, f2⟩ := findPlan_no (d := d) (M := M) (G := G) hR hW qb_n n1 s1 hp
  refine ⟨I2, ?_, f1.tr f2⟩
  simp only [m62, s62_0, s62_1, s62_2, s62_5, s62_6, s62_7, s62_10, s62_13, s62_14, s62_17, s62_18, s62_21, s62_22, s62_25, s62_26, s62_27, s62_30, s62_31, s62_34, s62_35, s62_38, s62_39, s62_42, s62_45, s62_46, s62_49, s62_50, s62_51, s62_52, s62_55, s62_58, s62_59, s62_60, s62_61, s62_64, s62_66, s62_67, s62_70, s62_71, s62_74, s62_77, s62_79, s62_82, s62_83, s62_86, s62_89, checkPoint_ok, checkRange_ok, checkRoom_ok hR h.1.1, if_pos h1, if_pos h2, if_pos h3, hR.o.1, hR.o.2.2.2.1, e1, e2, if_false, if_true, ck_v, ck_x, Option.toList, List.cons_append, List.nil_append, kil_nil, N_1, o10, o00, exN_0, exN_1, exN_2, exN_3, exN_4, exN_5, Ex]
end CLIC
