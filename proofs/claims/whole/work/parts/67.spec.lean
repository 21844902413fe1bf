/-! THE METHODS' MEANING: the model's state, what it keeps, its simple modifications -/
def mdO (o : OId) : Prop := o.1 = 12 ∨ (35 ≤ o.1 ∧ o.1 ≤ 41)
def FM (I I' : OId → Nat → Int32) : Prop := ∀ o, ¬ mdO o → I' o = I o
def MR (I : OId → Nat → Int32) (B : Bk) (hs : List Bk) (sn : Option Bk) : Prop :=
  MW (I (35, 0, 0)) B ∧ hs.length ≤ 6 ∧ I (12, 0, 0) 8 = N hs.length ∧ (∀ i b, hs[i]? = some b → MW (fun x => I (37, 0, 0) (106 * (hs.length - 1 - i) + x)) b) ∧ bb (I (12, 0, 0) 15) = (if sn.isSome = true then 1 else 0) ∧ ∀ s, sn = some s → MW (I (36, 0, 0)) s
section MRS
variable {d : Nat} {I I' I'' : OId → Nat → Int32} {M R : OId → Nat → AV} {G : SG} {B B' : Bk} {hs : List Bk} {sn : Option Bk}
theorem FM.rf : FM I I := fun _ _ => rfl
theorem FM.tr (h : FM I I') (h' : FM I' I'') : FM I I'' := fun o ho => (h' o ho).trans (h o ho)
theorem FM.st {o : OId} {f : Nat} {x : Int32} (h : FM I I') (ho : mdO o) : FM I (setI I' o f x) := fun q hq => by
  rw [setI_ne (by intro e; subst e; exact hq ho)]
  exact h q hq
theorem F35.fm (h : F35 I I') : FM I I' := fun o ho => h o (by rintro rfl; exact ho (Or.inr ⟨by decide, by decide⟩))
theorem thr_fm {x : Int32} : FM I (thr I x) := FM.rf.st (Or.inl rfl)
theorem MR.fr (h : MR I B hs sn) (h35 : I' (35, 0, 0) = I (35, 0, 0)) (h36 : I' (36, 0, 0) = I (36, 0, 0)) (h37 : I' (37, 0, 0) = I (37, 0, 0)) (h8 : I' (12, 0, 0) 8 = I (12, 0, 0) 8) (h15 : I' (12, 0, 0) 15 = I (12, 0, 0) 15) : MR I' B hs sn := by
  unfold MR at h ⊢
  rw [h35, h36, h37, h8, h15]
  exact h
theorem MR.th {x : Int32} (h : MR I B hs sn) : MR (thr I x) B hs sn := h.fr (thr_ne (by simp)) (thr_ne (by simp)) (thr_ne (by simp)) (thr_o (by decide)) (thr_o (by decide))
theorem MR.mod (h : MR I B hs sn) (f : F35 I I') (hw : MW (I' (35, 0, 0)) B') : MR I' B' hs sn := by
  obtain ⟨h1, h2, h3, h4, h5, h6⟩ := h
  refine ⟨hw, h2, ?_, ?_, ?_, ?_⟩
  · rw [f (12, 0, 0) (by simp)]; exact h3
  · rw [f (37, 0, 0) (by simp)]; exact h4
  · rw [f (12, 0, 0) (by simp)]; exact h5
  · rw [f (36, 0, 0) (by simp)]; exact h6
theorem kph_len : (kph B hs).length = if hs.length < 6 then hs.length + 1 else 6 := by
  unfold kph
  rw [List.length_take, List.length_cons]
  split <;> omega
theorem kph_get {i : Nat} {b : Bk} (h : (kph B hs)[i]? = some b) : i < 6 ∧ i < hs.length + 1 ∧ (B :: hs)[i]? = some b := by
  have hi : i < (kph B hs).length := by
    rcases Nat.lt_or_ge i (kph B hs).length with q | q
    · exact q
    · rw [List.getElem?_eq_none q] at h
      cases h
  have h6 : i < 6 := by rw [kph_len] at hi; split at hi <;> omega
  refine ⟨h6, by rw [kph_len] at hi; split at hi <;> omega, ?_⟩
  unfold kph at h
  rwa [List.getElem?_take_of_lt h6] at h
theorem MR.keep (hR : RF R) (h : MR I B hs sn) : ∃ I', evm (d + 2) 217 [aR (12, 0, 0)] (I, M, R, G) = some (.inl none, (I', M, R, G)) ∧ MR I' B (kph B hs) sn ∧ (∀ o, o ≠ (12, 0, 0) → o ≠ (37, 0, 0) → I' o = I o) ∧ ∀ f, f ≠ 8 → I' (12, 0, 0) f = I (12, 0, 0) f := by
  obtain ⟨h1, h2, h3, h4, h5, h6⟩ := h
  have hr := keeps_ok (d := d) (M := M) (G := G) hR h2 h3
  have hne : ∀ o, o ≠ (12, 0, 0) → o ≠ (37, 0, 0) → kpM I hs.length o = I o := fun o a b => by
    unfold kpM
    split
    · rw [setI_ne a, cpy_ne b, setI_ne a, shf_ne b]
    · rw [setI_ne a, cpy_ne b]
  have h12 : ∀ f, f ≠ 8 → kpM I hs.length (12, 0, 0) f = I (12, 0, 0) f := fun f hf => by
    unfold kpM
    split
    · rw [setI_at, if_neg hf, cpy_ne (by simp), setI_at, if_neg hf, shf_ne (by simp)]
    · rw [setI_at, if_neg hf, cpy_ne (by simp)]
  refine ⟨_, hr, ⟨?_, ?_, ?_, ?_, ?_, ?_⟩, hne, h12⟩
  · rw [hne _ (by simp) (by simp)]; exact h1
  · rw [kph_len]; split <;> omega
  · rw [kph_len]
    unfold kpM
    by_cases hl : hs.length = 6
    · rw [if_pos hl, if_neg (by omega), setI_at, if_pos rfl]; rfl
    · rw [if_neg hl, if_pos (by omega), setI_at, if_pos rfl]
  · intro i b hb
    obtain ⟨i6, il, hb'⟩ := kph_get hb
    rw [kph_len]
    unfold kpM
    by_cases hl : hs.length = 6
    · rw [if_pos hl, if_neg (by omega)]
      cases i with
      | zero =>
        rw [List.getElem?_cons_zero] at hb'
        cases hb'
        refine h1.fr (fun x hx => ?_)
        show setI (cpk (setI (shf I 530) (12, 0, 0) 8 5) (37, 0, 0) (35, 0, 0) 530 0 106) (12, 0, 0) 8 6 (37, 0, 0) (530 + x) = _
        rw [setI_ne (by simp), cpk_in hx, setI_ne (by simp), shf_ne (by simp), Nat.zero_add]
      | succ i =>
        rw [List.getElem?_cons_succ] at hb'
        refine (h4 i b hb').fr (fun x hx => ?_)
        show setI (cpk (setI (shf I 530) (12, 0, 0) 8 5) (37, 0, 0) (35, 0, 0) 530 0 106) (12, 0, 0) 8 6 (37, 0, 0) (106 * (6 - 1 - (i + 1)) + x) = I (37, 0, 0) (106 * (hs.length - 1 - i) + x)
        rw [setI_ne (by simp), cpk_out (Or.inl (by omega)), setI_ne (by simp), shf_lo (by omega), hl]
        exact congrArg _ (by omega)
    · rw [if_neg hl, if_pos (by omega)]
      cases i with
      | zero =>
        rw [List.getElem?_cons_zero] at hb'
        cases hb'
        refine h1.fr (fun x hx => ?_)
        show setI (cpk I (37, 0, 0) (35, 0, 0) (106 * hs.length) 0 106) (12, 0, 0) 8 (N (hs.length + 1)) (37, 0, 0) (106 * (hs.length + 1 - 1 - 0) + x) = _
        rw [setI_ne (by simp), show 106 * (hs.length + 1 - 1 - 0) + x = 106 * hs.length + x by omega, cpk_in hx, Nat.zero_add]
      | succ i =>
        rw [List.getElem?_cons_succ] at hb'
        refine (h4 i b hb').fr (fun x hx => ?_)
        show setI (cpk I (37, 0, 0) (35, 0, 0) (106 * hs.length) 0 106) (12, 0, 0) 8 (N (hs.length + 1)) (37, 0, 0) (106 * (hs.length + 1 - 1 - (i + 1)) + x) = I (37, 0, 0) (106 * (hs.length - 1 - i) + x)
        rw [setI_ne (by simp), cpk_out (Or.inl (by omega))]
        exact congrArg _ (by omega)
  · rw [h12 15 (by decide)]; exact h5
  · intro s hs
    rw [hne _ (by simp) (by simp)]; exact h6 s hs
theorem keep_fm (h : ∀ o, o ≠ (12, 0, 0) → o ≠ (37, 0, 0) → I' o = I o) : FM I I' := fun o ho => h o (by rintro rfl; exact ho (Or.inl rfl)) (by rintro rfl; exact ho (Or.inr ⟨by decide, by decide⟩))
theorem MR.undo {b : Bk} (hR : RF R) (h : MR I B (b :: hs) sn) : ∃ I', evm (d + 2) 308 [aR (12, 0, 0)] (I, M, R, G) = some (.inl (some (aI (N hs.length))), (I', M, R, G)) ∧ I' (12, 0, 0) 7 = 0 ∧ MR I' b hs sn ∧ FM I I' := by
  obtain ⟨h1, h2, h3, h4, h5, h6⟩ := h
  rw [List.length_cons] at h2 h3
  have hr := undoM_ok (d := d) (M := M) (G := G) hR h2 (Nat.succ_pos _) h3
  have hne : ∀ o, o ≠ (12, 0, 0) → o ≠ (35, 0, 0) → cpy (setI (thr I 0) (12, 0, 0) 8 (N (hs.length + 1 - 1))) (35, 0, 0) (37, 0, 0) 0 (106 * (hs.length + 1 - 1)) o = I o := fun o a b => by
    rw [cpy_ne b, setI_ne a, thr_ne a]
  have h12 : ∀ f, cpy (setI (thr I 0) (12, 0, 0) 8 (N (hs.length + 1 - 1))) (35, 0, 0) (37, 0, 0) 0 (106 * (hs.length + 1 - 1)) (12, 0, 0) f = if f = 8 then N hs.length else if f = 7 then 0 else I (12, 0, 0) f := fun f => by
    rw [cpy_ne (by simp), setI_at]
    show (if f = 8 then N hs.length else setI I (12, 0, 0) 7 0 (12, 0, 0) f) = _
    rw [setI_at]
  refine ⟨_, hr, ?_, ⟨?_, by omega, ?_, ?_, ?_, ?_⟩, ?_⟩
  · rw [h12]; rfl
  · refine (h4 0 b rfl).fr (fun x hx => ?_)
    rw [cpy_0 hx, setI_ne (by simp), thr_ne (by simp)]
    exact congrArg _ (by rw [List.length_cons]; omega)
  · rw [h12]; rfl
  · intro i b' hb'
    have hi : i < hs.length := by
      rcases Nat.lt_or_ge i hs.length with q | q
      · exact q
      · rw [List.getElem?_eq_none q] at hb'
        cases hb'
    rw [hne _ (by simp) (by simp)]
    have := h4 (i + 1) b' (by rw [List.getElem?_cons_succ]; exact hb')
    rw [List.length_cons, show hs.length + 1 - 1 - (i + 1) = hs.length - 1 - i by omega] at this
    exact this
  · rw [h12]; exact h5
  · intro s hs
    rw [hne _ (by simp) (by simp)]; exact h6 s hs
  · intro o ho
    exact hne o (by rintro rfl; exact ho (Or.inl rfl)) (by rintro rfl; exact ho (Or.inr ⟨by decide, by decide⟩))
theorem MR.undo_no (hR : RF R) (h : MR I B [] sn) : evm (d + 2) 308 [aR (12, 0, 0)] (I, M, R, G) = some (.inl (some (aI 0)), (thr I 1, M, R, G)) := undoM_no hR h.2.2.1
theorem MR.save (hR : RF R) (h : MR I B hs sn) : ∃ I', evm (d + 2) 309 [aR (12, 0, 0)] (I, M, R, G) = some (.inl (some (aI (N (vn B.1)))), (I', M, R, G)) ∧ I' (12, 0, 0) 7 = 0 ∧ MR I' B hs (some B) ∧ FM I I' := by
  obtain ⟨h1, h2, h3, h4, h5, h6⟩ := h
  have hr := saveM_ok (d := d) (I := I) (M := M) (G := G) hR
  rw [h1.2.2.1] at hr
  have hne : ∀ o, o ≠ (12, 0, 0) → o ≠ (36, 0, 0) → thr (setI (cpy I (36, 0, 0) (35, 0, 0) 0 0) (12, 0, 0) 15 1) 0 o = I o := fun o a b => by
    rw [thr_ne a, setI_ne a, cpy_ne b]
  have h12 : ∀ f, f ≠ 7 → thr (setI (cpy I (36, 0, 0) (35, 0, 0) 0 0) (12, 0, 0) 15 1) 0 (12, 0, 0) f = if f = 15 then 1 else I (12, 0, 0) f := fun f hf => by
    rw [thr_o hf, setI_at, cpy_ne (by simp)]
  refine ⟨_, hr, thr_at, ⟨?_, h2, ?_, ?_, ?_, ?_⟩, ?_⟩
  · rw [hne _ (by simp) (by simp)]; exact h1
  · rw [h12 _ (by decide)]; exact h3
  · rw [hne _ (by simp) (by simp)]; exact h4
  · rw [h12 _ (by decide)]; rfl
  · intro s hs
    cases hs
    refine h1.fr (fun x hx => ?_)
    rw [thr_ne (by simp), setI_ne (by simp), cpy_0 hx, Nat.zero_add]
  · intro o ho
    exact hne o (by rintro rfl; exact ho (Or.inl rfl)) (by rintro rfl; exact ho (Or.inr ⟨by decide, by decide⟩))
theorem MR.restore {s : Bk} (hR : RF R) (h : MR I B hs (some s)) : ∃ I', evm (d + 2) 310 [aR (12, 0, 0)] (I, M, R, G) = some (.inl (some (aI (N (vn s.1)))), (I', M, R, G)) ∧ I' (12, 0, 0) 7 = 0 ∧ MR I' s [] (some s) ∧ FM I I' := by
  obtain ⟨h1, h2, h3, h4, h5, h6⟩ := h
  have h7 := h6 s rfl
  have hr := restoreM_ok (d := d) (I := I) (M := M) (G := G) hR h5
  rw [h7.2.2.1] at hr
  have hne : ∀ o, o ≠ (12, 0, 0) → o ≠ (35, 0, 0) → setI (cpy (thr I 0) (35, 0, 0) (36, 0, 0) 0 0) (12, 0, 0) 8 0 o = I o := fun o a b => by
    rw [setI_ne a, cpy_ne b, thr_ne a]
  have h12 : ∀ f, setI (cpy (thr I 0) (35, 0, 0) (36, 0, 0) 0 0) (12, 0, 0) 8 0 (12, 0, 0) f = if f = 8 then 0 else if f = 7 then 0 else I (12, 0, 0) f := fun f => by
    rw [setI_at, cpy_ne (by simp)]
    show (if f = 8 then 0 else setI I (12, 0, 0) 7 0 (12, 0, 0) f) = _
    rw [setI_at]
  refine ⟨_, hr, ?_, ⟨?_, by decide, ?_, ?_, ?_, ?_⟩, ?_⟩
  · rw [h12]; rfl
  · refine h7.fr (fun x hx => ?_)
    rw [setI_ne (by simp), cpy_0 hx, Nat.zero_add, thr_ne (by simp)]
  · rw [h12]; rfl
  · intro i b hb
    cases hb
  · rw [h12]; exact h5
  · intro s' hs'
    cases hs'
    rw [hne _ (by simp) (by simp)]; exact h7
  · intro o ho
    exact hne o (by rintro rfl; exact ho (Or.inl rfl)) (by rintro rfl; exact ho (Or.inr ⟨by decide, by decide⟩))
theorem MR.restore_no (hR : RF R) (h : MR I B hs none) : evm (d + 2) 310 [aR (12, 0, 0)] (I, M, R, G) = some (.inl (some (aI 0)), (thr I 1, M, R, G)) := restoreM_no hR h.2.2.2.2.1
theorem o01 : ((0 : Int32) < 1) = True := by decide
theorem o02 : ((0 : Int32) < 2) = True := by decide
theorem o03 : ((0 : Int32) < 3) = True := by decide
theorem o04 : ((0 : Int32) < 4) = True := by decide
theorem l00 : ((0 : Int32) < 0) = False := by simp
theorem t77 {x : Int32} : setI I (12, 0, 0) 7 x (12, 0, 0) 7 = x := thr_at
theorem t35 {x : Int32} : setI I (12, 0, 0) 7 x (35, 0, 0) = I (35, 0, 0) := setI_ne (by simp)
theorem MR.setRadii {n m f : Int32} (hR : RF R) (h : MR I B hs sn) (h1 : ¬ n < 0) (h2 : ¬ m < n) (h3 : ¬ f < m) (h4 : ¬ 200 < f) (h0 : vn B.1 = 0) : ∃ I', evm (d + 3) 216 [aR (12, 0, 0), aI n, aI m, aI f] (I, M, R, G) = some (.inl (some (aI B.1.1.2.2)), (I', M, R, G)) ∧ I' (12, 0, 0) 7 = 0 ∧ MR I' (radB B n m f) (kph B hs) sn ∧ FM I I' := by
  obtain ⟨I1, k1, k2, k3, k4⟩ := MR.keep (d := d) (M := M) (G := G) hR (h.th (x := 0))
  have e7 : I (35, 0, 0) 7 = 0 := by rw [h.1.2.2.1, h0]; rfl
  have e2 : I1 (35, 0, 0) 2 = B.1.1.2.2 := k2.1.1.2.2
  have f2 : F35 I1 (setI (setI (setI I1 (35, 0, 0) 0 n) (35, 0, 0) 1 m) (35, 0, 0) 2 f) := ((F35.rf.st).st).st
  refine ⟨_, ?_, ?_, k2.mod f2 (mw_rad k2.1), (thr_fm.tr (keep_fm k3)).tr f2.fm⟩
  · simp only [m216, s216_0, s216_1, s216_2, s216_5, s216_6, s216_7, s216_10, s216_11, s216_12, s216_15, s216_16, s216_19, s216_22, s216_23, s216_26, s216_27, s216_30, s216_32, s216_33, s216_36, s216_37, s216_40, s216_41, s216_44, s216_45, s216_48, s216_51, s216_52, s216_53, s216_54, s216_57, s216_58, s216_61, s216_62, s216_63, s216_65, s216_66, s216_69, s216_70, s216_71, s216_72, s216_73, s216_76, s216_77, s216_78, s216_79, s216_80, s216_83, s216_84, s216_85, s216_86, s216_88, ite_le, h1, h2, h3, h4, hR.m.1, kn7, cl7, ag35, e7, l00, t77, k1, kn2, cl2, e2, kw0, kw1, kw2, cl0, cl1, if_false, if_true, ck_v, ck_x, Option.toList, List.cons_append, List.nil_append, kil_nil, N_1, o10, o00, exN_0, exN_1, exN_2, exN_3, exN_4, exN_5, Ex]
  · rw [f2 _ (by simp), k4 7 (by decide), thr_at]
theorem setRadiiM_no1 {n m f : Int32} (h : n < 0 ∨ m < n ∨ f < m ∨ 200 < f) : evm (d + 3) 216 [aR (12, 0, 0), aI n, aI m, aI f] (I, M, R, G) = some (.inl (some (aI 0)), (thr I 1, M, R, G)) := by
  by_cases h1 : n < 0
  · simp only [m216, s216_0, s216_1, s216_2, s216_5, s216_6, s216_7, s216_10, s216_11, s216_12, s216_15, s216_16, s216_19, s216_22, s216_23, s216_26, s216_27, s216_30, s216_32, s216_33, s216_36, s216_37, s216_40, s216_41, s216_44, s216_45, s216_48, s216_51, s216_52, s216_53, s216_54, s216_57, s216_58, s216_61, s216_62, s216_63, s216_65, s216_66, s216_69, s216_70, s216_71, s216_72, s216_73, s216_76, s216_77, s216_78, s216_79, s216_80, s216_83, s216_84, s216_85, s216_86, s216_88, ite_le, h1, o01, t77, if_false, if_true, ck_v, ck_x, Option.toList, List.cons_append, List.nil_append, kil_nil, N_1, o10, o00, exN_0, exN_1, exN_2, exN_3, exN_4, exN_5, Ex]
  · by_cases h2 : m < n
    · simp only [m216, s216_0, s216_1, s216_2, s216_5, s216_6, s216_7, s216_10, s216_11, s216_12, s216_15, s216_16, s216_19, s216_22, s216_23, s216_26, s216_27, s216_30, s216_32, s216_33, s216_36, s216_37, s216_40, s216_41, s216_44, s216_45, s216_48, s216_51, s216_52, s216_53, s216_54, s216_57, s216_58, s216_61, s216_62, s216_63, s216_65, s216_66, s216_69, s216_70, s216_71, s216_72, s216_73, s216_76, s216_77, s216_78, s216_79, s216_80, s216_83, s216_84, s216_85, s216_86, s216_88, ite_le, h1, h2, o01, t77, if_false, if_true, ck_v, ck_x, Option.toList, List.cons_append, List.nil_append, kil_nil, N_1, o10, o00, exN_0, exN_1, exN_2, exN_3, exN_4, exN_5, Ex]
    · by_cases h3 : f < m
      · simp only [m216, s216_0, s216_1, s216_2, s216_5, s216_6, s216_7, s216_10, s216_11, s216_12, s216_15, s216_16, s216_19, s216_22, s216_23, s216_26, s216_27, s216_30, s216_32, s216_33, s216_36, s216_37, s216_40, s216_41, s216_44, s216_45, s216_48, s216_51, s216_52, s216_53, s216_54, s216_57, s216_58, s216_61, s216_62, s216_63, s216_65, s216_66, s216_69, s216_70, s216_71, s216_72, s216_73, s216_76, s216_77, s216_78, s216_79, s216_80, s216_83, s216_84, s216_85, s216_86, s216_88, ite_le, h1, h2, h3, o01, t77, if_false, if_true, ck_v, ck_x, Option.toList, List.cons_append, List.nil_append, kil_nil, N_1, o10, o00, exN_0, exN_1, exN_2, exN_3, exN_4, exN_5, Ex]
      · have h4 : 200 < f := by
          rcases h with h | h | h | h
          · exact absurd h h1
          · exact absurd h h2
          · exact absurd h h3
          · exact h
        simp only [m216, s216_0, s216_1, s216_2, s216_5, s216_6, s216_7, s216_10, s216_11, s216_12, s216_15, s216_16, s216_19, s216_22, s216_23, s216_26, s216_27, s216_30, s216_32, s216_33, s216_36, s216_37, s216_40, s216_41, s216_44, s216_45, s216_48, s216_51, s216_52, s216_53, s216_54, s216_57, s216_58, s216_61, s216_62, s216_63, s216_65, s216_66, s216_69, s216_70, s216_71, s216_72, s216_73, s216_76, s216_77, s216_78, s216_79, s216_80, s216_83, s216_84, s216_85, s216_86, s216_88, ite_le, h1, h2, h3, h4, o01, t77, if_false, if_true, ck_v, ck_x, Option.toList, List.cons_append, List.nil_append, kil_nil, N_1, o10, o00, exN_0, exN_1, exN_2, exN_3, exN_4, exN_5, Ex]
theorem MR.setRadii_no2 {n m f : Int32} (hR : RF R) (h : MR I B hs sn) (h1 : ¬ n < 0) (h2 : ¬ m < n) (h3 : ¬ f < m) (h4 : ¬ 200 < f) (h0 : 0 < vn B.1) : evm (d + 3) 216 [aR (12, 0, 0), aI n, aI m, aI f] (I, M, R, G) = some (.inl (some (aI 0)), (thr I 2, M, R, G)) := by
  have h7 := h.1.2.2.2.1
  have e : (0 < N (vn B.1)) = True := N_lt1 (a := 0) h0 (by omega)
  simp only [m216, s216_0, s216_1, s216_2, s216_5, s216_6, s216_7, s216_10, s216_11, s216_12, s216_15, s216_16, s216_19, s216_22, s216_23, s216_26, s216_27, s216_30, s216_32, s216_33, s216_36, s216_37, s216_40, s216_41, s216_44, s216_45, s216_48, s216_51, s216_52, s216_53, s216_54, s216_57, s216_58, s216_61, s216_62, s216_63, s216_65, s216_66, s216_69, s216_70, s216_71, s216_72, s216_73, s216_76, s216_77, s216_78, s216_79, s216_80, s216_83, s216_84, s216_85, s216_86, s216_88, ite_le, h1, h2, h3, h4, hR.m.1, kn7, cl7, ag35, h.1.2.2.1, e, o02, t77, if_false, if_true, ck_v, ck_x, Option.toList, List.cons_append, List.nil_append, kil_nil, N_1, o10, o00, exN_0, exN_1, exN_2, exN_3, exN_4, exN_5, Ex]
theorem MR.close {id : Int32} (hR : RF R) (h : MR I B hs sn) (h1 : fid B.1 id < vn B.1) : ∃ I', evm (d + 3) 255 [aR (12, 0, 0), aI id] (I, M, R, G) = some (.inl (some (aI (N (vn B.1 - 1)))), (I', M, R, G)) ∧ I' (12, 0, 0) 7 = 0 ∧ MR I' (remB B (fid B.1 id)) (kph B hs) sn ∧ FM I I' := by
  obtain ⟨I1, k1, k2, k3, k4⟩ := MR.keep (d := d) (M := M) (G := G) hR (h.th (x := 0))
  obtain ⟨I2, q1, q2, q3⟩ := takesOut_ok (d := d) (M := M) (G := G) hR k2.1 h1
  have h7 := h.1.2.2.2.1
  refine ⟨I2, ?_, ?_, k2.mod q3 q2, (thr_fm.tr (keep_fm k3)).tr (F35.fm q3)⟩
  · have e7 : I2 (35, 0, 0) 7 = N (vn B.1 - 1) := q2.2.2.1
    simp only [m255, s255_0, s255_1, s255_2, s255_3, s255_6, s255_9, s255_10, s255_13, s255_14, s255_17, s255_20, s255_21, s255_22, s255_23, s255_26, s255_27, s255_28, s255_29, s255_32, s255_35, s255_36, s255_39, s255_41, s255_42, slotOf_f hR h.1.mv, slotOf_f hR k2.1.mv, plc_p h1, N_neg (show fid B.1 id < 2147483648 by omega), checked_1, ite_le, l00, k1, q1, hR.m.1, kn7, cl7, ag35, e7, if_false, if_true, ck_v, ck_x, Option.toList, List.cons_append, List.nil_append, kil_nil, N_1, o10, o00, exN_0, exN_1, exN_2, exN_3, exN_4, exN_5, Ex]
  · rw [q3 _ (by simp), k4 7 (by decide), thr_at]
theorem MR.close_no {id : Int32} (hR : RF R) (h : MR I B hs sn) (h1 : ¬ fid B.1 id < vn B.1) : evm (d + 3) 255 [aR (12, 0, 0), aI id] (I, M, R, G) = some (.inl (some (aI 0)), (thr I 1, M, R, G)) := by
  have e : plc (fid B.1 id) (vn B.1) = -1 := if_neg h1
  have e1 : ((-1 : Int32) < 0) = True := by decide
  simp only [m255, s255_0, s255_1, s255_2, s255_3, s255_6, s255_9, s255_10, s255_13, s255_14, s255_17, s255_20, s255_21, s255_22, s255_23, s255_26, s255_27, s255_28, s255_29, s255_32, s255_35, s255_36, s255_39, s255_41, s255_42, slotOf_f hR h.1.mv, e, e1, checked_0, ite_le, o01, if_false, if_true, ck_v, ck_x, Option.toList, List.cons_append, List.nil_append, kil_nil, N_1, o10, o00, exN_0, exN_1, exN_2, exN_3, exN_4, exN_5, Ex]
end MRS
