/-! THE METHODS' MEANING: text, a station's line in the model -/
theorem RF.fr {R R' : OId → Nat → AV} (h : RF R) (e : ∀ x : OId, 2 ≤ x.1 → x.1 ≠ 60 → R' x = R x) : RF R' := by
  have g : ∀ (a b c k : Nat), 2 ≤ a → a ≠ 60 → R' (a, b, c) k = R (a, b, c) k := fun a b c k h1 h2 => congrFun (e (a, b, c) h1 h2) k
  have g4 : ∀ b c k : Nat, R' (4, b, c) k = R (4, b, c) k := fun b c k => g 4 b c k (by decide) (by decide)
  have g5 : ∀ b c k : Nat, R' (5, b, c) k = R (5, b, c) k := fun b c k => g 5 b c k (by decide) (by decide)
  have g6 : ∀ b c k : Nat, R' (6, b, c) k = R (6, b, c) k := fun b c k => g 6 b c k (by decide) (by decide)
  have g7 : ∀ b c k : Nat, R' (7, b, c) k = R (7, b, c) k := fun b c k => g 7 b c k (by decide) (by decide)
  have g8 : ∀ b c k : Nat, R' (8, b, c) k = R (8, b, c) k := fun b c k => g 8 b c k (by decide) (by decide)
  have g9 : ∀ b c k : Nat, R' (9, b, c) k = R (9, b, c) k := fun b c k => g 9 b c k (by decide) (by decide)
  have g11 : ∀ b c k : Nat, R' (11, b, c) k = R (11, b, c) k := fun b c k => g 11 b c k (by decide) (by decide)
  have g12 : ∀ b c k : Nat, R' (12, b, c) k = R (12, b, c) k := fun b c k => g 12 b c k (by decide) (by decide)
  have g20 : ∀ b c k : Nat, R' (20, b, c) k = R (20, b, c) k := fun b c k => g 20 b c k (by decide) (by decide)
  have g25 : ∀ b c k : Nat, R' (25, b, c) k = R (25, b, c) k := fun b c k => g 25 b c k (by decide) (by decide)
  unfold RF at h ⊢
  simp only [g4, g5, g6, g7, g8, g9, g11, g12, g20, g25]
  exact h
def lineM (a x y c e : Nat) (l : Bool) : List Nat := (((((((((([] ++ dg a) ++ [64]) ++ dg x) ++ [44]) ++ dg y) ++ [32]) ++ [99]) ++ dg c) ++ [32]) ++ [if l = true then 76 else 84]) ++ dg e
theorem lineM_eq {a x y c e : Nat} {l : Bool} : lineM a x y c e l = lineT a x y c e l := by
  cases l <;> simp [lineM, lineT, sc]
section TEXT8
variable {d k n q : Nat} {j t : Nat} {S : SS} {s : List Nat}
theorem lenD_ok (hM : txM S (0, q, 2) k s) (hl : s.length ≤ 18) : evm (d + 2) 181 [aR (0, q, 2)] S = some (.inl (some (aI (N s.length))), S) := by
  have e8 : by8 0 = 0 := rfl
  have hK : kOf (60, k, s.length) = .inr (.byte, s.length) := rfl
  have s1 := (shz_t s.length (by omega)).1
  simp only [m181, s181_0, s181_1, s181_4, s181_5, s181_6, s181_9, s181_10, m182, s182_0, s182_3, s182_6, s182_7, s182_10, s182_13, s182_14, fg_d0, fg_d1, hM.1, hM.2.1, e8, kN, hK, s1, if_false, if_true, ck_v, ck_x, Option.toList, List.cons_append, List.nil_append, kil_nil, N_1, o10, o00, exN_0, exN_1, exN_2, exN_3, exN_4, exN_5, Ex]
theorem n9_12 {c : Nat → List AV → SS → Option Out} {L : List (Option AV)} {L2 : List (Nat × AV)} {St : List AV} : ev c 9 12 L L2 (aI 16 :: St) S = ev c 9 14 L L2 (aR (60, nq S, 16) :: St) (mk S (60, nq S, 16) (nq S + 1) (nms S) 16) := by
  have i0 : insAt 9 12 = some (.newarray .byte, 2, (0, 0, 0, 0), 0) := rfl
  exact ev_nab (m := 16) (pc' := 14) i0 rfl (by decide)
theorem sbInit (h3 : S.1 (1, j, t) 3 = 0) : ∃ S', evm (d + 3) 8 [aR (1, j, t)] S = some (.inl none, S') ∧ TX S' (1, j, t) (nq S) 16 [] ∧ (∀ x, x ≠ (1, j, t) → x ≠ (60, nq S, 16) → S'.1 x = S.1 x ∧ S'.2.1 x = S.2.1 x ∧ S'.2.2.1 x = S.2.2.1 x) ∧ nq S' = nq S + 1 ∧ nms S' = nms S ∧ cel S' = cel S + 1 ∧ slo S' = slo S + 16 ∧ xsS S' = xsS S ∧ S'.2.2.2.1 = S.2.2.2.1 ++ [(60, nq S, 16)] := by
  have e8 : by8 0 = 0 := rfl
  have no : ((1, j, t) : OId) ≠ (60, nq S, 16) := by simp
  refine ⟨(setI (mk S (60, nq S, 16) (nq S + 1) (nms S) 16).1 (1, j, t) 1 0, setV (mk S (60, nq S, 16) (nq S + 1) (nms S) 16).2.1 (1, j, t) 0 (aR (60, nq S, 16)), (mk S (60, nq S, 16) (nq S + 1) (nms S) 16).2.2), ?_, ⟨setV_y, by omega, by simp only [List.length_nil]; omega, setI_y, ?_, fun i hi => absurd hi (Nat.not_lt_zero _)⟩, fun x x1 x2 => ⟨(setI_o x1).trans (mk_I x2), (setV_o x1).trans (mk_M x2), mk_R x2⟩, rfl, rfl, rfl, rfl, rfl, rfl⟩
  · simp only [m8, s8_0, s8_1, s8_3, s8_6, m9, s9_0, s9_1, s9_4, s9_7, s9_10, s9_11, s9_14, s9_17, s9_18, s9_19, s9_22, s9_38, n9_12, e8, if_false, if_true, ck_v, ck_x, Option.toList, List.cons_append, List.nil_append, kil_nil, N_1, o10, o00, exN_0, exN_1, exN_2, exN_3, exN_4, exN_5, Ex]
  · show setI (mk S (60, nq S, 16) (nq S + 1) (nms S) 16).1 (1, j, t) 1 0 (1, j, t) 3 = _
    rw [setI_k (by decide), mk_I no, h3]
    rfl
theorem n303_25 {c : Nat → List AV → SS → Option Out} {L : List (Option AV)} {L2 : List (Nat × AV)} {St : List AV} (hn : nms S = []) : ev c 303 25 L L2 St S = ev c 303 28 L L2 (aR (1, nq S, 2) :: St) (mk S (1, nq S, 2) (nq S + 1) [] 4) := by
  have i0 : insAt 303 25 = some (.new 60, 3, (1, 0, 0, 0), 380) := rfl
  exact ev_newc (pc' := 28) i0 rfl rfl hn (by decide)
end TEXT8
section TEXT9
variable {d : Nat} {I : OId → Nat → Int32} {M R : OId → Nat → AV} {G : SG} {V : Vw} {B : Bk}
theorem writeStationM_no {id : Int32} (hR : RF R) (hV : MV I V) (hf : ¬ fid V id < vn V) : evm (d + 9) 303 [aR (12, 0, 0), aI id] (I, M, R, G) = some (.inl (some (aI 0)), (thr I 1, M, R, G)) := by
  have z1 : plc (fid V id) (vn V) = -1 := if_neg hf
  have z2 : ((-1 : Int32) < 0) = True := by decide
  have z3 : ((1 : Int32) ≤ 0) = False := by decide
  simp only [m303, s303_0, s303_1, s303_2, s303_5, s303_6, s303_7, s303_8, s303_15, s303_16, s303_19, s303_22, s303_23, s303_33, s303_36, s303_38, s303_41, s303_42, s303_43, s303_44, s303_47, s303_50, s303_52, s303_55, s303_56, s303_57, s303_58, s303_61, s303_64, s303_66, s303_69, s303_71, s303_74, s303_75, s303_76, s303_77, s303_80, s303_83, s303_85, s303_88, s303_89, s303_90, s303_93, s303_96, s303_98, s303_101, s303_103, s303_106, s303_107, s303_108, s303_109, s303_112, s303_115, s303_118, s303_121, s303_122, s303_125, s303_128, slotOf_f hR hV, z1, z2, z3, checked_0, if_false, if_true, ck_v, ck_x, Option.toList, List.cons_append, List.nil_append, kil_nil, N_1, o10, o00, exN_0, exN_1, exN_2, exN_3, exN_4, exN_5, Ex]
theorem writeStationM_ok {p a x y c e : Nat} (hR : RF R) (hV : MV I V) (hf : fid V (N a) = p) (hp : p < vn V) (ha : a < 1000) (hx : x < 100) (hy : y < 100) (hc : c < 10) (he : e < 1400) (f1 : vf V p 1 = N x) (f2 : vf V p 2 = N y) (f3 : vf V p 3 = N c) (f4 : vf V p 4 = N e) (hn : nms (I, M, R, G) = []) : ∃ S' q, evm (d + 9) 303 [aR (12, 0, 0), aI (N a)] (I, M, R, G) = some (.inl (some (aI (N (lineT a x y c e (vl V p)).length))), S') ∧ S'.2.1 (12, 0, 0) 16 = aR (0, q, 2) ∧ txM S' (0, q, 2) (q + 1) (lineT a x y c e (vl V p)) ∧ nq (I, M, R, G) ≤ q ∧ q + 1 < nq S' ∧ nms S' = [] ∧ S'.1 (12, 0, 0) = thr I 0 (12, 0, 0) ∧ (∀ x : OId, x ≠ (12, 0, 0) → (x.1 = 60 → x.2.1 < nq (I, M, R, G)) → (x.1 < 2 → x.2.2 = 2 → x.2.1 < nq (I, M, R, G)) → S'.1 x = I x ∧ S'.2.1 x = M x ∧ S'.2.2.1 x = R x) ∧ (∀ f, f ≠ 16 → S'.2.1 (12, 0, 0) f = M (12, 0, 0) f) ∧ S'.2.2.1 (12, 0, 0) = R (12, 0, 0) ∧ cel S' ≤ cel (I, M, R, G) + 15 ∧ slo S' ≤ slo (I, M, R, G) + 500 ∧ xsS S' = xsS (I, M, R, G) := by
  have la := dg_3 ha
  have lx := dg_2 hx
  have ly := dg_2 hy
  have lc := dg_1 hc
  have le := dg_len e
  obtain ⟨S1, hS1⟩ : ∃ S1 : SS, S1 = (thr I 0, M, R, G) := ⟨_, rfl⟩
  have hn1 : nms S1 = [] := (congrArg (fun T : SS => nms T) hS1).trans hn
  have hq1 : nq S1 = nq (I, M, R, G) := (congrArg (fun T : SS => nq T) hS1).trans rfl
  obtain ⟨S2, hS2⟩ : ∃ S2 : SS, S2 = mk S1 (1, nq S1, 2) (nq S1 + 1) [] 4 := ⟨_, rfl⟩
  have h23 : S2.1 (1, nq S1, 2) 3 = 0 := by rw [hS2]; exact if_pos rfl
  have hq2 : nq S2 = nq S1 + 1 := (congrArg (fun T : SS => nq T) hS2).trans rfl
  obtain ⟨S3, eb, hT3, hfr3, hq3, hn3, hc3, hs3, hx3, -⟩ := sbInit (d := d + 5) h23
  have hn2 : nms S2 = [] := (congrArg (fun T : SS => nms T) hS2).trans rfl
  rw [hn2] at hn3
  rw [hq2] at hT3 hfr3 hq3
  have q0 : AQ (1, nq S1, 2) (nq S1 + 1) 0 S3 S3 [] := ⟨AP.refl hn3, nq S1 + 1, 16, Or.inl rfl, by omega, hT3⟩
  obtain ⟨T1, e1, q1⟩ := q0.int (d := d + 3) (v := a) (by omega) (by simp only [List.length_nil]; omega)
  obtain ⟨T2, e2, q2⟩ := q1.chr (d := d + 3) (c := 64) (by omega) (by simp only [List.length_append, List.length_nil]; omega)
  obtain ⟨T3, e3, q3⟩ := q2.int (d := d + 3) (v := x) (by omega) (by simp only [List.length_append, List.length_nil, List.length_cons]; omega)
  obtain ⟨T4, e4, q4⟩ := q3.chr (d := d + 3) (c := 44) (by omega) (by simp only [List.length_append, List.length_nil, List.length_cons]; omega)
  obtain ⟨T5, e5, q5⟩ := q4.int (d := d + 3) (v := y) (by omega) (by simp only [List.length_append, List.length_nil, List.length_cons]; omega)
  obtain ⟨T6, e6, q6⟩ := q5.chr (d := d + 3) (c := 32) (by omega) (by simp only [List.length_append, List.length_nil, List.length_cons]; omega)
  obtain ⟨T7, e7, q7⟩ := q6.chr (d := d + 3) (c := 99) (by omega) (by simp only [List.length_append, List.length_nil, List.length_cons]; omega)
  obtain ⟨T8, e8, q8⟩ := q7.int (d := d + 3) (v := c) (by omega) (by simp only [List.length_append, List.length_nil, List.length_cons]; omega)
  obtain ⟨T9, e9, q9⟩ := q8.chr (d := d + 3) (c := 32) (by omega) (by simp only [List.length_append, List.length_nil, List.length_cons]; omega)
  obtain ⟨T10, e10, q10⟩ := q9.chr (d := d + 3) (c := if vl V p = true then 76 else 84) (by split <;> omega) (by simp only [List.length_append, List.length_nil, List.length_cons]; omega)
  obtain ⟨T11, e11, q11⟩ := q10.int (d := d + 3) (v := e) (by omega) (by simp only [List.length_append, List.length_nil, List.length_cons]; omega)
  have hlen : (lineT a x y c e (vl V p)).length ≤ 18 := by
    unfold lineT
    simp only [List.length_append, List.length_nil, List.length_cons, sc_len]
    omega
  have q11' : AQ (1, nq S1, 2) (nq S1 + 1) 11 S3 T11 (lineT a x y c e (vl V p)) := by
    have h9 : AQ (1, nq S1, 2) (nq S1 + 1) 11 S3 T11 (lineM a x y c e (vl V p)) := q11
    rw [lineM_eq] at h9
    exact h9
  obtain ⟨hA, k1, m1, hk1, hk2, hT1⟩ := q11'
  obtain ⟨U, eu, hM, hFY, hqU, hnU, hcU, hsU, hxU, -⟩ := toString_ok (d := d + 2) hT1 hk2 hA.2.2.1 hlen
  -- what the machine reads on the way
  have rdS : ∀ {T : SS} {c9 : Nat} {s9 : List Nat}, AQ (1, nq S1, 2) (nq S1 + 1) c9 S3 T s9 → ∀ x9 : OId, 2 ≤ x9.1 → x9.1 ≠ 60 → T.1 x9 = thr I 0 x9 ∧ T.2.1 x9 = M x9 ∧ T.2.2.1 x9 = R x9 := by
    intro T c9 s9 hq x9 h1 h2
    obtain ⟨b1, b2, b3⟩ := hq.rd h2 h1
    have n1 : x9 ≠ (1, nq S1, 2) := fun q => by rw [q] at h1; have h9 : 2 ≤ 1 := h1; omega
    have n6 : x9 ≠ (60, nq S1 + 1, 16) := fun q => h2 (by rw [q])
    obtain ⟨c1, c2, c3⟩ := hfr3 x9 n1 n6
    rw [b1, b2, b3, c1, c2, c3, hS2, mk_I n1, mk_M n1, mk_R n1, hS1]
    exact ⟨rfl, rfl, rfl⟩
  have rR : ∀ {T : SS} {c9 : Nat} {s9 : List Nat}, AQ (1, nq S1, 2) (nq S1 + 1) c9 S3 T s9 → RF T.2.2.1 := fun hq => hR.fr (fun x9 h1 h2 => (rdS hq x9 h1 h2).2.2)
  have rV : ∀ {T : SS} {c9 : Nat} {s9 : List Nat}, AQ (1, nq S1, 2) (nq S1 + 1) c9 S3 T s9 → MV T.1 V := fun hq => hV.fr ((rdS hq (35, 0, 0) (by simp) (by simp)).1.trans (thr_ne (by simp)))
  have g2 : evm (d + 8) 231 [aR (12, 0, 0), aI (N p), aI 1] T2 = some (.inl (some (aI (N x))), T2) := by
    have h9 := fV1 (d := d + 7) (M := T2.2.1) (G := T2.2.2.2) (rR q2) (rV q2) hp
    rw [f1] at h9
    exact h9
  have g4 : evm (d + 8) 231 [aR (12, 0, 0), aI (N p), aI 2] T4 = some (.inl (some (aI (N y))), T4) := by
    have h9 := fV2 (d := d + 7) (M := T4.2.1) (G := T4.2.2.2) (rR q4) (rV q4) hp
    rw [f2] at h9
    exact h9
  have g7 : evm (d + 8) 231 [aR (12, 0, 0), aI (N p), aI 3] T7 = some (.inl (some (aI (N c))), T7) := by
    have h9 := fV3 (d := d + 7) (M := T7.2.1) (G := T7.2.2.2) (rR q7) (rV q7) hp
    rw [f3] at h9
    exact h9
  have g9 : evm (d + 8) 230 [aR (12, 0, 0), aI (N p)] T9 = some (.inl (some (aI (if vl V p = true then 1 else 0))), T9) := isLicensed_ok (d := d + 6) (M := T9.2.1) (G := T9.2.2.2) (rR q9) (rV q9) hp
  have g10 : evm (d + 8) 231 [aR (12, 0, 0), aI (N p), aI 4] T10 = some (.inl (some (aI (N e))), T10) := by
    have h9 := fV4 (d := d + 7) (M := T10.2.1) (G := T10.2.2.2) (rR q10) (rV q10) hp
    rw [f4] at h9
    exact h9
  replace eb : evm (d + 8) 8 [aR (1, nq S1, 2)] S2 = some (.inl none, S3) := eb
  replace e1 : evm (d + 8) 186 [aR (1, nq S1, 2), aI (N a)] S3 = some (.inl (some (aR (1, nq S1, 2))), T1) := e1
  replace e2 : evm (d + 8) 199 [aR (1, nq S1, 2), aI 64] T1 = some (.inl (some (aR (1, nq S1, 2))), T2) := e2
  replace e3 : evm (d + 8) 186 [aR (1, nq S1, 2), aI (N x)] T2 = some (.inl (some (aR (1, nq S1, 2))), T3) := e3
  replace e4 : evm (d + 8) 199 [aR (1, nq S1, 2), aI 44] T3 = some (.inl (some (aR (1, nq S1, 2))), T4) := e4
  replace e5 : evm (d + 8) 186 [aR (1, nq S1, 2), aI (N y)] T4 = some (.inl (some (aR (1, nq S1, 2))), T5) := e5
  replace e6 : evm (d + 8) 199 [aR (1, nq S1, 2), aI 32] T5 = some (.inl (some (aR (1, nq S1, 2))), T6) := e6
  replace e7 : evm (d + 8) 199 [aR (1, nq S1, 2), aI 99] T6 = some (.inl (some (aR (1, nq S1, 2))), T7) := e7
  replace e8 : evm (d + 8) 186 [aR (1, nq S1, 2), aI (N c)] T7 = some (.inl (some (aR (1, nq S1, 2))), T8) := e8
  replace e9 : evm (d + 8) 199 [aR (1, nq S1, 2), aI 32] T8 = some (.inl (some (aR (1, nq S1, 2))), T9) := e9
  replace e11 : evm (d + 8) 186 [aR (1, nq S1, 2), aI (N e)] T10 = some (.inl (some (aR (1, nq S1, 2))), T11) := e11
  replace eu : evm (d + 8) 190 [aR (1, nq S1, 2)] T11 = some (.inl (some (aR (0, nq T11, 2))), U) := eu
  have no : ((0, nq T11, 2) : OId) ≠ (12, 0, 0) := by simp
  have m1 : setV U.2.1 (12, 0, 0) 16 (aR (0, nq T11, 2)) (0, nq T11, 2) = U.2.1 (0, nq T11, 2) := setV_o no
  have y1 : setV U.2.1 (12, 0, 0) 16 (aR (0, nq T11, 2)) (12, 0, 0) 16 = aR (0, nq T11, 2) := setV_y
  have hM' : txM ((U.1, setV U.2.1 (12, 0, 0) 16 (aR (0, nq T11, 2)), U.2.2) : SS) (0, nq T11, 2) (nq T11 + 1) (lineT a x y c e (vl V p)) := ⟨(congrFun m1 0).trans hM.1, hM.2.1, hM.2.2⟩
  have eL : evm (d + 8) 181 [aR (0, nq T11, 2)] ((U.1, setV U.2.1 (12, 0, 0) 16 (aR (0, nq T11, 2)), U.2.2) : SS) = some (.inl (some (aI (N (lineT a x y c e (vl V p)).length))), (U.1, setV U.2.1 (12, 0, 0) 16 (aR (0, nq T11, 2)), U.2.2)) := lenD_ok (d := d + 6) hM' hlen
  have hsl : evm (d + 8) 253 [aR (12, 0, 0), aI (N a)] (I, M, R, G) = some (.inl (some (aI (N p))), (I, M, R, G)) := by
    have h9 := slotOf_f (d := d + 6) (M := M) (G := G) (id := N a) hR hV
    rw [hf, plc_p hp] at h9
    exact h9
  have h7 : vn V ≤ 7 := hV.2.2.1
  have hqT : nq S1 + 2 ≤ nq T11 := by have := hA.2.1; omega
  have z1 : (N p < 0) = False := N_neg (by omega)
  have z0 : ((0 : Int32) ≤ 0) = True := by decide
  have ec : evm (d + 8) 256 [aR (12, 0, 0), aI 1] (I, M, R, G) = some (.inl (some (aI 0)), S1) := by rw [hS1]; exact checked_1
  have en : ∀ {c : Nat → List AV → SS → Option Out} {L : List (Option AV)} {L2 : List (Nat × AV)} {St : List AV}, ev c 303 25 L L2 St S1 = ev c 303 28 L L2 (aR (1, nq S1, 2) :: St) S2 := by
    intro c L L2 St
    rw [hS2]
    exact n303_25 hn1
  refine ⟨(U.1, setV U.2.1 (12, 0, 0) 16 (aR (0, nq T11, 2)), U.2.2), nq T11, ?_, y1, hM', by omega, ?_, hnU, ?_, ?_, ?_, ?_, ?_, ?_, ?_⟩
  · by_cases hl : vl V p = true
    · rw [if_pos hl] at e10 g9
      replace e10 : evm (d + 8) 199 [aR (1, nq S1, 2), aI 76] T9 = some (.inl (some (aR (1, nq S1, 2))), T10) := e10
      simp only [m303, s303_0, s303_1, s303_2, s303_5, s303_6, s303_7, s303_8, s303_11, s303_12, s303_16, s303_19, s303_24, s303_28, s303_29, s303_32, s303_33, s303_36, s303_38, s303_41, s303_42, s303_43, s303_44, s303_47, s303_50, s303_52, s303_55, s303_56, s303_57, s303_58, s303_61, s303_64, s303_66, s303_69, s303_71, s303_74, s303_75, s303_76, s303_77, s303_80, s303_83, s303_85, s303_88, s303_89, s303_90, s303_93, s303_96, s303_98, s303_103, s303_106, s303_107, s303_108, s303_109, s303_112, s303_115, s303_118, s303_121, s303_122, s303_125, s303_128, hsl, z1, z0, ec, en, eb, e1, e2, e3, e4, e5, e6, e7, e8, e9, e10, e11, eu, eL, g2, g4, g7, g9, g10, setV_y, if_false, if_true, ck_v, ck_x, Option.toList, List.cons_append, List.nil_append, kil_nil, N_1, o10, o00, exN_0, exN_1, exN_2, exN_3, exN_4, exN_5, Ex]
    · rw [if_neg hl] at e10 g9
      replace e10 : evm (d + 8) 199 [aR (1, nq S1, 2), aI 84] T9 = some (.inl (some (aR (1, nq S1, 2))), T10) := e10
      simp only [m303, s303_0, s303_1, s303_2, s303_5, s303_6, s303_7, s303_8, s303_11, s303_12, s303_16, s303_19, s303_24, s303_28, s303_29, s303_32, s303_33, s303_36, s303_38, s303_41, s303_42, s303_43, s303_44, s303_47, s303_50, s303_52, s303_55, s303_56, s303_57, s303_58, s303_61, s303_64, s303_66, s303_69, s303_71, s303_74, s303_75, s303_76, s303_77, s303_80, s303_83, s303_85, s303_88, s303_89, s303_90, s303_93, s303_101, s303_103, s303_106, s303_107, s303_108, s303_109, s303_112, s303_115, s303_118, s303_121, s303_122, s303_125, s303_128, hsl, z1, z0, ec, en, eb, e1, e2, e3, e4, e5, e6, e7, e8, e9, e10, e11, eu, eL, g2, g4, g7, g9, g10, setV_y, if_false, if_true, ck_v, ck_x, Option.toList, List.cons_append, List.nil_append, kil_nil, N_1, o10, o00, exN_0, exN_1, exN_2, exN_3, exN_4, exN_5, Ex]
  · show nq T11 + 1 < nq U
    omega
  · show U.1 (12, 0, 0) = _
    rw [(hFY (12, 0, 0) (by simp) (by simp)).1]
    exact (rdS q11 (12, 0, 0) (by simp) (by simp)).1
  · intro x9 n12 h1 h2
    obtain ⟨b1, b2, b3⟩ := hFY x9 (fun q => by have := h1 q; omega) (fun q r => by have := h2 q r; omega)
    have m1 : x9 ≠ (1, nq S1, 2) := fun q => by
      have := h2 (by rw [q]; show 1 < 2; omega) (by rw [q])
      rw [q] at this
      have h9 : nq S1 < nq (I, M, R, G) := this
      omega
    have m6 : x9 ≠ (60, nq S1 + 1, 16) := fun q => by
      have := h1 (by rw [q])
      rw [q] at this
      have h9 : nq S1 + 1 < nq (I, M, R, G) := this
      omega
    obtain ⟨c1, c2, c3⟩ := hA.1 x9 m1 (fun q => by have := h1 q; omega) (fun q r => by have := h2 q r; omega)
    obtain ⟨f1, f2, f3⟩ := hfr3 x9 m1 m6
    refine ⟨?_, ?_, ?_⟩
    · show U.1 x9 = _
      rw [b1, c1, f1, hS2, mk_I m1, hS1]
      exact thr_ne n12
    · show setV U.2.1 (12, 0, 0) 16 (aR (0, nq T11, 2)) x9 = _
      rw [setV_o n12, b2, c2, f2, hS2, mk_M m1, hS1]
    · show U.2.2.1 x9 = _
      rw [b3, c3, f3, hS2, mk_R m1, hS1]
  · intro f hf9
    show setV U.2.1 (12, 0, 0) 16 (aR (0, nq T11, 2)) (12, 0, 0) f = _
    have h9 : setV U.2.1 (12, 0, 0) 16 (aR (0, nq T11, 2)) (12, 0, 0) f = U.2.1 (12, 0, 0) f := if_neg (fun q => hf9 q.2)
    rw [h9, (hFY (12, 0, 0) (by simp) (by simp)).2.1, (rdS q11 (12, 0, 0) (by simp) (by simp)).2.1]
  · show U.2.2.1 (12, 0, 0) = _
    rw [(hFY (12, 0, 0) (by simp) (by simp)).2.2, (rdS q11 (12, 0, 0) (by simp) (by simp)).2.2]
  · show cel U ≤ _
    have a1 := hA.2.2.2.1
    have a3 : cel S1 = cel (I, M, R, G) := (congrArg (fun T : SS => cel T) hS1).trans rfl
    have a2 : cel S2 = cel S1 + 1 := (congrArg (fun T : SS => cel T) hS2).trans rfl
    omega
  · show slo U ≤ _
    have a1 := hA.2.2.2.2.1
    have a3 : slo S1 = slo (I, M, R, G) := (congrArg (fun T : SS => slo T) hS1).trans rfl
    have a2 : slo S2 = slo S1 + 4 := (congrArg (fun T : SS => slo T) hS2).trans rfl
    omega
  · show xsS U = _
    have a3 : xsS S1 = xsS (I, M, R, G) := (congrArg (fun T : SS => xsS T) hS1).trans rfl
    have a2 : xsS S2 = xsS S1 := (congrArg (fun T : SS => xsS T) hS2).trans rfl
    rw [hxU, hA.2.2.2.2.2, hx3, a2, a3]
end TEXT9
