/-! THE METHODS' MEANING: the model ends trials, makes moves; its state -/
theorem wv_rem {B : Bk} {p : Nat} (h : WV B.1) (hp : p < vn B.1) : WV (remB B p).1 := by
  obtain ⟨hr, h7, hf, hc, hi⟩ := h
  have hs : ∀ k, k < vn B.1 - 1 → sh p k < vn B.1 := fun k hk => by unfold sh; split <;> omega
  refine ⟨hr, ?_, fun k hk => hf (sh p k) (hs k hk), fun a b ha hb => hc _ _ (hs a ha) (hs b hb), fun a b ha hb q => ?_⟩
  · show vn B.1 - 1 ≤ 7
    omega
  · have := hi _ _ (hs a ha) (hs b hb) q
    unfold sh at this
    split at this <;> split at this <;> omega
def wayM (V : Vw) (p k : Nat) : Bool := decide (k ≠ p) && (vl V k && decide (ab (vf V p 3 - vf V k 3) < spm V p k))
theorem wayM_way {V : Vw} (hW : WV V) {p : Nat} (hp : p < vn V) : fs (wayM V p) (vn V) = fs (way V p) (vn V) := fs_congr (fun k hk => by
  have e1 := mgv_neg hW hk hp
  have e2 := cfv_c hW hk hp
  unfold wayM way
  rw [spm_v]
  simp only [e1, e2, Bool.decide_eq_true]
  rfl)
section MSTATE
variable {d : Nat} {I I' : OId → Nat → Int32} {M R : OId → Nat → AV} {G : SG} {B B' : Bk} {V : Vw} {hs : List Bk} {sn : Option Bk}
theorem isInTheWay_ok {p : Nat} (hR : RF R) (hV : MV I V) (hp : p < vn V) : evm (d + 7) 247 [aR (12, 0, 0), aI (N p)] (I, M, R, G) = some (.inl (some (aI (if fs (wayM V p) (vn V) < vn V then 1 else 0))), (I, M, R, G)) := by
  have h7 := hV.2.2.1
  rw [m247]
  have hs : ∀ k, k < vn V → ev (evm (d + 6)) 247 2 [some (aR (12, 0, 0)), some (aI (N p)), some (aI (N k))] [] [] (I, M, R, G) = if wayM V p k = true then some (.inl (some (aI 1)), (I, M, R, G)) else ev (evm (d + 6)) 247 2 [some (aR (12, 0, 0)), some (aI (N p)), some (aI (N (k + 1)))] [] [] (I, M, R, G) := by
    intro k hk
    have e : (N k = N p) = (k = p) := N_inj (by omega) (by omega)
    rw [s247_2]
    by_cases h1 : k = p
    · have ep : (N k = N p) = True := by rw [e]; exact eq_true h1
      have ew : wayM V p k = false := by unfold wayM; simp [h1]
      rw [ew]
      simp only [m247, s247_0, s247_1, s247_3, s247_4, s247_7, s247_9, s247_10, s247_13, s247_14, s247_15, s247_18, s247_19, s247_20, s247_23, s247_26, s247_27, s247_28, s247_29, s247_32, s247_35, s247_36, s247_37, s247_40, s247_43, s247_44, hR.m.1, kn7, cl7, ag35, hV.2.1, N_ge hk (show vn V < 2147483648 by omega), ep, if_false, if_true, ck_v, ck_x, Option.toList, List.cons_append, List.nil_append, kil_nil, N_1, o10, o00, exN_0, exN_1, exN_2, exN_3, exN_4, exN_5, Ex, Bool.false_eq_true]
    · have ep : (N k = N p) = False := by rw [e]; exact eq_false h1
      by_cases h2 : vl V k = true
      · have hl : licv V k = 1 := if_pos h2
        by_cases h3 : ab (vf V p 3 - vf V k 3) < spm V p k
        · have ew : wayM V p k = true := by unfold wayM; simp [h1, h2, h3]
          rw [ew]
          simp only [m247, s247_0, s247_1, s247_3, s247_4, s247_7, s247_9, s247_10, s247_13, s247_14, s247_15, s247_18, s247_19, s247_20, s247_23, s247_26, s247_27, s247_28, s247_29, s247_32, s247_35, s247_36, s247_37, s247_40, s247_43, s247_44, hR.m.1, kn7, cl7, ag35, hV.2.1, N_ge hk (show vn V < 2147483648 by omega), ep, h3, hl, isLicensed_ok hR hV hk, conflict_ok hR hV hp hk, if_false, if_true, ck_v, ck_x, Option.toList, List.cons_append, List.nil_append, kil_nil, N_1, o10, o00, exN_0, exN_1, exN_2, exN_3, exN_4, exN_5, Ex, or_true]
        · have ew : wayM V p k = false := by unfold wayM; simp [h3]
          rw [ew]
          simp only [m247, s247_0, s247_1, s247_3, s247_4, s247_7, s247_9, s247_10, s247_13, s247_14, s247_15, s247_18, s247_19, s247_20, s247_23, s247_26, s247_27, s247_28, s247_29, s247_32, s247_35, s247_36, s247_37, s247_40, s247_43, s247_44, hR.m.1, kn7, cl7, ag35, hV.2.1, N_ge hk (show vn V < 2147483648 by omega), ep, h3, hl, isLicensed_ok hR hV hk, conflict_ok hR hV hp hk, if_false, if_true, ck_v, ck_x, Option.toList, List.cons_append, List.nil_append, kil_nil, N_1, o10, o00, exN_0, exN_1, exN_2, exN_3, exN_4, exN_5, Ex, Bool.false_eq_true]
      · have hl : licv V k = 0 := if_neg h2
        have ew : wayM V p k = false := by unfold wayM; simp [h2]
        rw [ew]
        simp only [m247, s247_0, s247_1, s247_3, s247_4, s247_7, s247_9, s247_10, s247_13, s247_14, s247_15, s247_18, s247_19, s247_20, s247_23, s247_26, s247_27, s247_28, s247_29, s247_32, s247_35, s247_36, s247_37, s247_40, s247_43, s247_44, hR.m.1, kn7, cl7, ag35, hV.2.1, N_ge hk (show vn V < 2147483648 by omega), ep, hl, isLicensed_ok hR hV hk, if_false, if_true, ck_v, ck_x, Option.toList, List.cons_append, List.nil_append, kil_nil, N_1, o10, o00, exN_0, exN_1, exN_2, exN_3, exN_4, exN_5, Ex, Bool.false_eq_true]
  have h0 := iter_fs (f := fun k => ev (evm (d + 6)) 247 2 [some (aR (12, 0, 0)), some (aI (N p)), some (aI (N k))] [] [] (I, M, R, G)) hs
  have hf : ev (evm (d + 6)) 247 2 [some (aR (12, 0, 0)), some (aI (N p)), some (aI (N (vn V)))] [] [] (I, M, R, G) = some (.inl (some (aI 0)), (I, M, R, G)) := by
    rw [s247_2]
    simp only [m247, s247_0, s247_1, s247_3, s247_4, s247_7, s247_9, s247_10, s247_13, s247_14, s247_15, s247_18, s247_19, s247_20, s247_23, s247_26, s247_27, s247_28, s247_29, s247_32, s247_35, s247_36, s247_37, s247_40, s247_43, s247_44, hR.m.1, kn7, cl7, ag35, hV.2.1, N_ge1 (Nat.le_refl (vn V)) (show vn V < 2147483648 by omega), if_false, if_true, ck_v, ck_x, Option.toList, List.cons_append, List.nil_append, kil_nil, N_1, o10, o00, exN_0, exN_1, exN_2, exN_3, exN_4, exN_5, Ex, true_or]
  simp only [s247_0, s247_1, kil_nil]
  refine h0.trans ?_
  rw [hf]
  split <;> rfl
theorem kw0 {r : Option Out} : kIw (35, 0, 0) 0 r = r := knw (i := 0) (by decide)
theorem kw1 {r : Option Out} : kIw (35, 0, 0) 1 r = r := knw (i := 1) (by decide)
theorem kw2 {r : Option Out} : kIw (35, 0, 0) 2 r = r := knw (i := 2) (by decide)
theorem kw3 {r : Option Out} : kIw (35, 0, 0) 3 r = r := knw (i := 3) (by decide)
theorem kw4 {r : Option Out} : kIw (35, 0, 0) 4 r = r := knw (i := 4) (by decide)
theorem kw5 {r : Option Out} : kIw (35, 0, 0) 5 r = r := knw (i := 5) (by decide)
theorem kw6 {r : Option Out} : kIw (35, 0, 0) 6 r = r := knw (i := 6) (by decide)
theorem kw7 {r : Option Out} : kIw (35, 0, 0) 7 r = r := knw (i := 7) (by decide)
theorem kw8 {r : Option Out} : kIw (35, 0, 0) 8 r = r := knw (i := 8) (by decide)
/-- only the row has changed -/
def F35 (I I' : OId → Nat → Int32) : Prop := ∀ o, o ≠ (35, 0, 0) → I' o = I o
theorem F35.rf : F35 I I := fun _ _ => rfl
theorem F35.tr {I'' : OId → Nat → Int32} (h : F35 I I') (h' : F35 I' I'') : F35 I I'' := fun o ho => (h' o ho).trans (h o ho)
theorem F35.st {f : Nat} {x : Int32} (h : F35 I I') : F35 I (setI I' (35, 0, 0) f x) := fun o ho => by rw [setI_ne ho]; exact h o ho
theorem emLoop (hR : RF R) : ∀ (i : Nat) (I : OId → Nat → Int32) (B : Bk), MW (I (35, 0, 0)) B → WV B.1 → i ≤ vn B.1 → ∃ I', ev (evm (d + 7)) 246 10 [some (aR (12, 0, 0)), some (aI (N i - 1))] [] [] (I, M, R, G) = some (.inl none, (I', M, R, G)) ∧ MW (I' (35, 0, 0)) (etL i B) ∧ F35 I I'
  | 0, I, B, h, _, _ => by
    refine ⟨I, ?_, h, F35.rf⟩
    have e : N 0 - 1 < 0 := by decide
    rw [s246_10]
    simp only [m246, s246_0, s246_1, s246_4, s246_6, s246_7, s246_8, s246_9, s246_11, s246_14, s246_15, s246_16, s246_19, s246_22, s246_23, s246_24, s246_27, s246_30, s246_33, s246_34, s246_35, s246_38, s246_39, s246_42, s246_44, s246_45, s246_46, s246_47, s246_48, s246_49, s246_52, s246_55, if_pos e]
  | i + 1, I, B, h, hW, hi => by
    have h7 := h.2.2.2.1
    have e0 : N (i + 1) - 1 = N i := sub_N (by omega) (by omega)
    have e2 : N i + -1 = N i - 1 := addm _
    have hL := isLicensed_ok (d := d + 5) (M := M) (G := G) hR h.mv (show i < vn B.1 by omega)
    have hw := isInTheWay_ok (d := d) (M := M) (G := G) hR h.mv (show i < vn B.1 by omega)
    rw [wayM_way hW (show i < vn B.1 by omega)] at hw
    by_cases hx : vl B.1 i = false ∧ fs (way B.1 i) (vn B.1) < vn B.1
    · obtain ⟨I1, k1, k2, k3⟩ := takesOut_ok (d := d + 5) (M := M) (G := G) hR h (show i < vn B.1 by omega)
      have k4 : MW (setI I1 (35, 0, 0) 6 (bend B + 1) (35, 0, 0)) (endB (remB B i)) := mw_scal k2 (by decide) rfl rfl rfl rfl
      have hW' : WV (endB (remB B i)).1 := wv_rem hW (show i < vn B.1 by omega)
      obtain ⟨I', h1, h2, h3⟩ := emLoop hR i _ _ k4 hW' (by show i ≤ vn B.1 - 1; omega)
      have e6 : I1 (35, 0, 0) 6 = bend B := k2.2.1.2.2.2
      have hl0 : licv B.1 i = 0 := by unfold licv; rw [hx.1]; rfl
      refine ⟨I', ?_, ?_, (F35.st k3).tr h3⟩
      · rw [s246_10]
        simp only [m246, s246_0, s246_1, s246_4, s246_6, s246_7, s246_8, s246_9, s246_11, s246_14, s246_15, s246_16, s246_19, s246_22, s246_23, s246_24, s246_27, s246_30, s246_33, s246_34, s246_35, s246_38, s246_39, s246_42, s246_44, s246_45, s246_46, s246_47, s246_48, s246_49, s246_52, s246_55, e0, N_neg (show i < 2147483648 by omega), hL, hl0, hw, if_pos hx.2, k1, hR.m.1, kn6, cl6, ag35, kw6, e6, if_false, if_true, ck_v, ck_x, Option.toList, List.cons_append, List.nil_append, kil_nil, N_1, o10, o00, exN_0, exN_1, exN_2, exN_3, exN_4, exN_5, Ex, e2]
        exact h1
      · unfold etL
        rw [if_pos hx]
        exact h2
    · obtain ⟨I', h1, h2, h3⟩ := emLoop hR i I B h hW (by omega)
      refine ⟨I', ?_, ?_, h3⟩
      · rw [s246_10]
        cases hv : vl B.1 i with
        | true =>
          have hl1 : licv B.1 i = 1 := by unfold licv; rw [hv]; rfl
          simp only [m246, s246_0, s246_1, s246_4, s246_6, s246_7, s246_8, s246_9, s246_11, s246_14, s246_15, s246_16, s246_19, s246_22, s246_23, s246_24, s246_27, s246_30, s246_33, s246_34, s246_35, s246_38, s246_39, s246_42, s246_44, s246_45, s246_46, s246_47, s246_48, s246_49, s246_52, s246_55, e0, N_neg (show i < 2147483648 by omega), hL, hl1, if_false, if_true, ck_v, ck_x, Option.toList, List.cons_append, List.nil_append, kil_nil, N_1, o10, o00, exN_0, exN_1, exN_2, exN_3, exN_4, exN_5, Ex, e2]
          exact h1
        | false =>
          have hl0 : licv B.1 i = 0 := by unfold licv; rw [hv]; rfl
          have hf : ¬ fs (way B.1 i) (vn B.1) < vn B.1 := fun q => hx ⟨hv, q⟩
          simp only [m246, s246_0, s246_1, s246_4, s246_6, s246_7, s246_8, s246_9, s246_11, s246_14, s246_15, s246_16, s246_19, s246_22, s246_23, s246_24, s246_27, s246_30, s246_33, s246_34, s246_35, s246_38, s246_39, s246_42, s246_44, s246_45, s246_46, s246_47, s246_48, s246_49, s246_52, s246_55, e0, N_neg (show i < 2147483648 by omega), hL, hl0, hw, if_neg hf, if_false, if_true, ck_v, ck_x, Option.toList, List.cons_append, List.nil_append, kil_nil, N_1, o10, o00, exN_0, exN_1, exN_2, exN_3, exN_4, exN_5, Ex, e2]
          exact h1
      · unfold etL
        rw [if_neg hx]
        exact h2
theorem endsTrials_ok (hR : RF R) (h : MW (I (35, 0, 0)) B) (hW : WV B.1) : ∃ I', evm (d + 8) 246 [aR (12, 0, 0)] (I, M, R, G) = some (.inl none, (I', M, R, G)) ∧ MW (I' (35, 0, 0)) (etL (vn B.1) B) ∧ F35 I I' := by
  obtain ⟨I', h1, h2, h3⟩ := emLoop (d := d) (M := M) (G := G) hR (vn B.1) I B h hW (Nat.le_refl _)
  refine ⟨I', ?_, h2, h3⟩
  rw [m246]
  simp only [s246_0, s246_1, s246_4, s246_6, s246_7, s246_8, s246_9, hR.m.1, kn7, cl7, ag35, h.2.2.1, if_false, if_true, ck_v, ck_x, Option.toList, List.cons_append, List.nil_append, kil_nil, N_1, o10, o00, exN_0, exN_1, exN_2, exN_3, exN_4, exN_5, Ex]
  exact h1
/-- the rows of a plan whose moves are ms -/
def PR (V : Vw) (ms : List (Nat × Nat)) (p : Nat → Int32) : Prop := ∀ i k e, ms[i]? = some (k, e) → p (3 * i) = vf V k 0 ∧ p (3 * i + 1) = vf (mvV V (ms.take i)) k 3 ∧ p (3 * i + 2) = N e
theorem mw_r {r : Nat → Int32} {g : Nat} {v : Int32} {k : Nat} (h : MW r B) (hk : k < 7) (hg : g < 5) : MW (fun x => if x = 15 + 6 * k + g then v else r x) (fdB B k g v) := by
  have := mw_fd (I := fun _ => r) (v := v) h hk hg
  have e : setI (fun _ => r) (35, 0, 0) (15 + 6 * k + g) v (35, 0, 0) = fun x => if x = 15 + 6 * k + g then v else r x := by
    funext x
    rw [setI_at]
  rwa [e] at this
theorem mw_p {r r' : Nat → Int32} {p : Nat → Int32} {m : Nat} (h : MW r (planB B (N m) p)) (hm : m < 2) (h8 : r' 8 = N (m + 1)) (h9 : r' (9 + 3 * m) = p (3 * m)) (h10 : r' (10 + 3 * m) = p (3 * m + 1)) (h11 : r' (11 + 3 * m) = p (3 * m + 2)) (ho : ∀ x, x ≠ 8 → ¬ (9 + 3 * m ≤ x ∧ x ≤ 11 + 3 * m) → r' x = r x) : MW r' (planB B (N (m + 1)) p) := by
  obtain ⟨⟨r0, r1, r2⟩, ⟨r3, r4, r5, r6⟩, r7, h7, r8, hp, hf, hl, hc⟩ := h
  refine ⟨⟨?_, ?_, ?_⟩, ⟨?_, ?_, ?_, ?_⟩, ?_, h7, h8, ?_, ?_, ?_, ?_⟩
  · rw [ho _ (by omega) (by omega)]; exact r0
  · rw [ho _ (by omega) (by omega)]; exact r1
  · rw [ho _ (by omega) (by omega)]; exact r2
  · rw [ho _ (by omega) (by omega)]; exact r3
  · rw [ho _ (by omega) (by omega)]; exact r4
  · rw [ho _ (by omega) (by omega)]; exact r5
  · rw [ho _ (by omega) (by omega)]; exact r6
  · rw [ho _ (by omega) (by omega)]; exact r7
  · intro i hi hb
    by_cases he : i = m
    · subst he
      exact ⟨h9, h10, h11⟩
    · have hb' : N i < N (m + 1) := hb
      rw [N_lt (by omega) (by omega)] at hb'
      rw [ho _ (by omega) (by omega), ho _ (by omega) (by omega), ho _ (by omega) (by omega)]
      exact hp i hi (by show N i < N m; rw [N_lt (by omega) (by omega)]; omega)
  · intro i hi f hf'
    rw [ho _ (by omega) (by omega)]; exact hf i hi f hf'
  · intro i hi
    rw [ho _ (by omega) (by omega)]; exact hl i hi
  · intro a b ha hb
    rw [ho _ (by omega) (by omega)]; exact hc a b ha hb
theorem x9 {m : Nat} : (9 : Int32) + 3 * N m = N (9 + 3 * m) := by
  show N 9 + N 3 * N m = _
  rw [N_mul, N_add]
theorem x91 {m : Nat} : N (9 + 3 * m) + 1 = N (10 + 3 * m) := by
  rw [N_1]
  exact congrArg N (by omega)
theorem x92 {m : Nat} : N (9 + 3 * m) + 2 = N (11 + 3 * m) := by
  show N (9 + 3 * m) + N 2 = _
  rw [N_add]
  exact congrArg N (by omega)
theorem moLoop {n : Nat} {p : Nat → Int32} (hR : RF R) (hn : n ≤ 2) : ∀ (ms : List (Nat × Nat)) (m : Nat) (I : OId → Nat → Int32) (B : Bk), m + ms.length = n → MW (fun x => if x = 8 then N m else I (35, 0, 0) x) (planB B (N m) p) → I (35, 0, 0) 8 = N n → (∀ i k e, ms[i]? = some (k, e) → k < vn B.1 ∧ I (39, 0, 0) (m + i) = N k ∧ I (40, 0, 0) (m + i) = N e ∧ p (3 * (m + i)) = vf B.1 k 0 ∧ p (3 * (m + i) + 1) = vf (mvV B.1 (ms.take i)) k 3 ∧ p (3 * (m + i) + 2) = N e) → ∃ I', ev (evm (d + 2)) 243 10 [some (aR (12, 0, 0)), some (aI (N n)), some (aI (N m))] [] [] (I, M, R, G) = some (.inl none, (I', M, R, G)) ∧ MW (I' (35, 0, 0)) (planB (mvB B ms) (N n) p) ∧ F35 I I'
  | [], m, I, B, hm, h, h8, hr => by
    have e : m = n := by simpa using hm
    subst e
    refine ⟨I, ?_, h.fr (fun x _ => ?_), F35.rf⟩
    · rw [s243_10]
      simp only [m243, s243_0, s243_1, s243_4, s243_6, s243_7, s243_8, s243_9, s243_11, s243_12, s243_15, s243_16, s243_19, s243_21, s243_22, s243_23, s243_24, s243_25, s243_26, s243_27, s243_30, s243_31, s243_32, s243_33, s243_36, s243_37, s243_38, s243_41, s243_43, s243_44, s243_45, s243_46, s243_47, s243_48, s243_49, s243_50, s243_51, s243_54, s243_55, s243_56, s243_57, s243_60, s243_61, s243_62, s243_65, s243_67, s243_68, s243_69, s243_70, s243_71, s243_72, s243_73, s243_74, s243_77, s243_78, s243_79, s243_80, s243_81, s243_82, s243_85, s243_86, s243_87, s243_88, s243_89, s243_92, s243_93, s243_94, s243_97, s243_100, s243_103, N_ge1 (Nat.le_refl m) (show m < 2147483648 by omega), if_false, if_true, ck_v, ck_x, Option.toList, List.cons_append, List.nil_append, kil_nil, N_1, o10, o00, exN_0, exN_1, exN_2, exN_3, exN_4, exN_5, Ex]
    · by_cases hx : x = 8
      · rw [if_pos hx, hx, h8]
      · rw [if_neg hx]
  | (k, e) :: ms, m, I, B, hm, h, h8, hr => by
    have hm' : m + 1 + ms.length = n := by rw [List.length_cons] at hm; omega
    obtain ⟨hk, a1, a2, p1, p2, p3⟩ := hr 0 k e rfl
    rw [Nat.add_zero] at a1 a2 p1 p2 p3
    have h7 := h.2.2.2.1
    have hk7 : k < 7 := Nat.lt_of_lt_of_le hk h7
    have hk9 : k < vn B.1 := hk
    have k39 : kOf (39, 0, 0) = .inr (.int, 2) := rfl
    have k40 : kOf (40, 0, 0) = .inr (.int, 2) := rfl
    have g39 : ∀ (S : SS) q, agI S (39, 0, 0) q = S.1 (39, 0, 0) q := fun _ _ => rfl
    have g40 : ∀ (S : SS) q, agI S (40, 0, 0) q = S.1 (40, 0, 0) q := fun _ _ => rfl
    have f0 : I (35, 0, 0) (15 + 6 * k + 0) = vf B.1 k 0 := by
      have : (if 15 + 6 * k + 0 = 8 then N m else I (35, 0, 0) (15 + 6 * k + 0)) = vf B.1 k 0 := h.2.2.2.2.2.2.1 k hk 0 (by decide)
      rwa [if_neg (by omega)] at this
    have f3 : I (35, 0, 0) (15 + 6 * k + 3) = vf B.1 k 3 := by
      have : (if 15 + 6 * k + 3 = 8 then N m else I (35, 0, 0) (15 + 6 * k + 3)) = vf B.1 k 3 := h.2.2.2.2.2.2.1 k hk 3 (by decide)
      rwa [if_neg (by omega)] at this
    obtain ⟨J, hJ⟩ : ∃ J, J = setI (setI (setI (setI I (35, 0, 0) (9 + 3 * m) (vf B.1 k 0)) (35, 0, 0) (10 + 3 * m) (vf B.1 k 3)) (35, 0, 0) (11 + 3 * m) (N e)) (35, 0, 0) (15 + 6 * k + 3) (N e) := ⟨_, rfl⟩
    have hJ35 : ∀ x, J (35, 0, 0) x = if x = 15 + 6 * k + 3 then N e else if x = 11 + 3 * m then N e else if x = 10 + 3 * m then vf B.1 k 3 else if x = 9 + 3 * m then vf B.1 k 0 else I (35, 0, 0) x := fun x => by
      rw [hJ, setI_at, setI_at, setI_at, setI_at]
    have hJo : F35 I J := fun o ho => by rw [hJ, setI_ne ho, setI_ne ho, setI_ne ho, setI_ne ho]
    have p2' : p (3 * m + 1) = vf B.1 k 3 := p2
    have b1 : MW (fun x => if x = 15 + 6 * k + 3 then N e else if x = 8 then N (m + 1) else if x = 11 + 3 * m then N e else if x = 10 + 3 * m then vf B.1 k 3 else if x = 9 + 3 * m then vf B.1 k 0 else I (35, 0, 0) x) (fdB (planB B (N (m + 1)) p) k 3 (N e)) := mw_r (mw_p h (show m < 2 by omega) (by rw [if_pos rfl]) (by rw [if_neg (by omega), if_neg (by omega), if_neg (by omega), if_pos rfl, p1]) (by rw [if_neg (by omega), if_neg (by omega), if_pos rfl, p2']) (by rw [if_neg (by omega), if_pos rfl]; exact p3.symm) (fun x h1 h2 => by rw [if_neg h1, if_neg (by omega), if_neg (by omega), if_neg (by omega), if_neg h1])) hk7 (by decide)
    have b2 : MW (fun x => if x = 8 then N (m + 1) else J (35, 0, 0) x) (planB (fdB B k 3 (N e)) (N (m + 1)) p) := b1.fr (fun x _ => by
      rw [hJ35]
      by_cases hx : x = 8
      · rw [if_pos hx, if_neg (by omega), if_pos hx]
      · rw [if_neg hx]
        by_cases hy : x = 15 + 6 * k + 3
        · rw [if_pos hy, if_pos hy]
        · rw [if_neg hy, if_neg hy, if_neg hx])
    obtain ⟨I', e1, e2, e3⟩ := moLoop hR hn ms (m + 1) J _ hm' b2 (by rw [hJ35, if_neg (by omega), if_neg (by omega), if_neg (by omega), if_neg (by omega)]; exact h8) (fun i k' e' hq => by
      obtain ⟨c1, c2, c3, c4, c5, c6⟩ := hr (i + 1) k' e' (by rw [List.getElem?_cons_succ]; exact hq)
      rw [hJo (39, 0, 0) (by simp), hJo (40, 0, 0) (by simp), show m + 1 + i = m + (i + 1) by omega]
      exact ⟨c1, c2, c3, c4.trans (if_neg (by omega)).symm, c5, c6⟩)
    refine ⟨I', ?_, e2, hJo.tr e3⟩
    have n39 : ∀ f v, setI I (35, 0, 0) f v (39, 0, 0) = I (39, 0, 0) := fun f v => setI_ne (by simp)
    have n40 : ∀ f v, setI I (35, 0, 0) f v (40, 0, 0) = I (40, 0, 0) := fun f v => setI_ne (by simp)
    have n39' : ∀ f v f' v', setI (setI I (35, 0, 0) f v) (35, 0, 0) f' v' (39, 0, 0) = I (39, 0, 0) := fun f v f' v' => by rw [setI_ne (by simp), setI_ne (by simp)]
    have n40' : ∀ f v f' v', setI (setI I (35, 0, 0) f v) (35, 0, 0) f' v' (40, 0, 0) = I (40, 0, 0) := fun f v f' v' => by rw [setI_ne (by simp), setI_ne (by simp)]
    have n39'' : ∀ f v f' v' f'' v'', setI (setI (setI I (35, 0, 0) f v) (35, 0, 0) f' v') (35, 0, 0) f'' v'' (39, 0, 0) = I (39, 0, 0) := fun f v f' v' f'' v'' => by rw [setI_ne (by simp), setI_ne (by simp), setI_ne (by simp)]
    have n40'' : ∀ f v f' v' f'' v'', setI (setI (setI I (35, 0, 0) f v) (35, 0, 0) f' v') (35, 0, 0) f'' v'' (40, 0, 0) = I (40, 0, 0) := fun f v f' v' f'' v'' => by rw [setI_ne (by simp), setI_ne (by simp), setI_ne (by simp)]
    have hf0 := fun (J : OId → Nat → Int32) => field_N (d := d + 1) (I := J) (M := M) (G := G) (f := 0) hR hk7 (by decide)
    have hf3 := fun (J : OId → Nat → Int32) => field_N (d := d + 1) (I := J) (M := M) (G := G) (f := 3) hR hk7 (by decide)
    have hf0' : ∀ J : OId → Nat → Int32, evm (d + 2) 231 [aR (12, 0, 0), aI (N k), aI 0] (J, M, R, G) = some (.inl (some (aI (J (35, 0, 0) (15 + 6 * k + 0)))), (J, M, R, G)) := hf0
    have hf3' : ∀ J : OId → Nat → Int32, evm (d + 2) 231 [aR (12, 0, 0), aI (N k), aI 3] (J, M, R, G) = some (.inl (some (aI (J (35, 0, 0) (15 + 6 * k + 3)))), (J, M, R, G)) := hf3
    have g3 : ∀ v, setI I (35, 0, 0) (9 + 3 * m) v (35, 0, 0) (15 + 6 * k + 3) = vf B.1 k 3 := fun v => by rw [setI_at, if_neg (by omega)]; exact f3
    rw [s243_10]
    simp only [m243, s243_0, s243_1, s243_4, s243_6, s243_7, s243_8, s243_9, s243_11, s243_12, s243_15, s243_16, s243_19, s243_21, s243_22, s243_23, s243_24, s243_25, s243_26, s243_27, s243_30, s243_31, s243_32, s243_33, s243_36, s243_37, s243_38, s243_41, s243_43, s243_44, s243_45, s243_46, s243_47, s243_48, s243_49, s243_50, s243_51, s243_54, s243_55, s243_56, s243_57, s243_60, s243_61, s243_62, s243_65, s243_67, s243_68, s243_69, s243_70, s243_71, s243_72, s243_73, s243_74, s243_77, s243_78, s243_79, s243_80, s243_81, s243_82, s243_85, s243_86, s243_87, s243_88, s243_89, s243_92, s243_93, s243_94, s243_97, s243_100, s243_103, N_ge (show m < n by omega) (show n < 2147483648 by omega), hR.m.1, hR.m.2.2.2.2.1, hR.m.2.2.2.2.2.1, x9, x91, x92, kIx k39 (show m < 2 by omega) (by decide), kIx k40 (show m < 2 by omega) (by decide), N_cl (show m < 2147483648 by omega), g39, g40, a1, a2, n39, n40, n39', n40', n39'', n40'', hf0', hf3', f0, g3, knw (show 9 + 3 * m < 106 by omega), knw (show 9 + 3 * m + 1 < 106 by omega), knw (show 11 + 3 * m < 106 by omega), N_cl (show 9 + 3 * m < 2147483648 by omega), N_cl (show 9 + 3 * m + 1 < 2147483648 by omega), N_cl (show 11 + 3 * m < 2147483648 by omega), lays3 hR hk7, if_false, if_true, ck_v, ck_x, Option.toList, List.cons_append, List.nil_append, kil_nil, N_1, o10, o00, exN_0, exN_1, exN_2, exN_3, exN_4, exN_5, Ex]
    rw [show 9 + 3 * m + 1 = 10 + 3 * m by omega, ← hJ]
    exact e1
theorem moves_ok {ms : List (Nat × Nat)} {p : Nat → Int32} (hR : RF R) (hn : ms.length ≤ 2) (h : MW (I (35, 0, 0)) B) (hp : PR B.1 ms p) (hm : ∀ i k e, ms[i]? = some (k, e) → k < vn B.1 ∧ I (39, 0, 0) i = N k ∧ I (40, 0, 0) i = N e) : ∃ I', evm (d + 3) 243 [aR (12, 0, 0), aI (N ms.length)] (I, M, R, G) = some (.inl none, (I', M, R, G)) ∧ MW (I' (35, 0, 0)) (planB (mvB B ms) (N ms.length) p) ∧ F35 I I' := by
  have h0 : MW (fun x => if x = 8 then N 0 else setI I (35, 0, 0) 8 (N ms.length) (35, 0, 0) x) (planB B (N 0) p) := by
    obtain ⟨r, hr⟩ : ∃ r : Nat → Int32, r = fun x => if x = 8 then N 0 else setI I (35, 0, 0) 8 (N ms.length) (35, 0, 0) x := ⟨_, rfl⟩
    rw [← hr]
    have e : ∀ x, x ≠ 8 → r x = I (35, 0, 0) x := fun x hx => by
      rw [hr]
      show (if x = 8 then N 0 else setI I (35, 0, 0) 8 (N ms.length) (35, 0, 0) x) = _
      rw [if_neg hx, setI_at, if_neg hx]
    obtain ⟨⟨r0, r1, r2⟩, ⟨r3, r4, r5, r6⟩, r7, h7, r8, hp, hf, hl, hc⟩ := h
    refine ⟨⟨?_, ?_, ?_⟩, ⟨?_, ?_, ?_, ?_⟩, ?_, h7, ?_, ?_, ?_, ?_, ?_⟩
    · rw [e _ (by omega)]; exact r0
    · rw [e _ (by omega)]; exact r1
    · rw [e _ (by omega)]; exact r2
    · rw [e _ (by omega)]; exact r3
    · rw [e _ (by omega)]; exact r4
    · rw [e _ (by omega)]; exact r5
    · rw [e _ (by omega)]; exact r6
    · rw [e _ (by omega)]; exact r7
    · rw [hr]; rfl
    · intro i hi hb
      have hb' : N i < N 0 := hb
      rw [N_lt (by omega) (by omega)] at hb'
      omega
    · intro i hi f hf'
      rw [e _ (by omega)]; exact hf i hi f hf'
    · intro i hi
      rw [e _ (by omega)]; exact hl i hi
    · intro a b ha hb
      rw [e _ (by omega)]; exact hc a b ha hb
  obtain ⟨I', e1, e2, e3⟩ := moLoop (d := d) (M := M) (G := G) hR hn ms 0 _ B (by omega) h0 (by rw [setI_at, if_pos rfl]) (fun i k e hq => by
    obtain ⟨a1, a2, a3⟩ := hm i k e hq
    obtain ⟨b1, b2, b3⟩ := hp i k e hq
    rw [setI_ne (by simp), setI_ne (by simp), Nat.zero_add]
    exact ⟨a1, a2, a3, b1, b2, b3⟩)
  refine ⟨I', ?_, e2, (F35.st F35.rf).tr e3⟩
  rw [m243]
  simp only [s243_0, s243_1, s243_4, s243_6, s243_7, s243_8, s243_9, hR.m.1, kw8, cl8, if_false, if_true, ck_v, ck_x, Option.toList, List.cons_append, List.nil_append, kil_nil, N_1, o10, o00, exN_0, exN_1, exN_2, exN_3, exN_4, exN_5, Ex]
  exact e1
end MSTATE
