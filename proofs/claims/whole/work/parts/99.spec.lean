/-! THE METHODS' MEANING: text, a station's line in the class -/
def lineT (a x y c e : Nat) (l : Bool) : List Nat := ((((((((([] ++ dg a) ++ [64]) ++ dg x) ++ [44]) ++ dg y) ++ sc 0) ++ dg c) ++ sc (if l = true then 2 else 1)) ++ dg e)
theorem dg_1 {v : Nat} (h : v < 10) : (dg v).length = 1 := by
  unfold dg
  rw [if_pos h]
  rfl
theorem dg_2 {v : Nat} (h : v < 100) : (dg v).length ≤ 2 := by
  unfold dg
  repeat' split
  all_goals
    simp only [List.length_cons, List.length_nil]
    omega
theorem dg_3 {v : Nat} (h : v < 1000) : (dg v).length ≤ 3 := by
  unfold dg
  repeat' split
  all_goals
    simp only [List.length_cons, List.length_nil]
    omega
section TEXT6
variable {d k n c0 : Nat} {j t : Nat} {S0 S : SS} {s : List Nat}
theorem AQ.int {v : Nat} (h : AQ (1, j, t) k c0 S0 S s) (hv : v < 1400) (hl : s.length + (dg v).length ≤ 18) : ∃ S', evm (d + 5) 186 [aR (1, j, t), aI (N v)] S = some (.inl (some (aR (1, j, t))), S') ∧ AQ (1, j, t) k (c0 + 1) S0 S' (s ++ dg v) := by
  obtain ⟨hA, k1, n1, hk1, hk2, hT1⟩ := h
  obtain ⟨S', e, hq⟩ := int_ok (d := d) hT1 hk2 hA.2.2.1 hv hl
  exact ⟨S', e, AQ.trans hA hk1 hq⟩
theorem AQ.chr {c : Nat} (h : AQ (1, j, t) k c0 S0 S s) (hc : c < 128) (hl : s.length + 1 ≤ 18) : ∃ S', evm (d + 5) 199 [aR (1, j, t), aI (N c)] S = some (.inl (some (aR (1, j, t))), S') ∧ AQ (1, j, t) k (c0 + 1) S0 S' (s ++ [c]) := by
  obtain ⟨hA, k1, n1, hk1, hk2, hT1⟩ := h
  obtain ⟨S', e, hq⟩ := chr_ok (d := d) hT1 hk2 hA.2.2.1 hl hc
  exact ⟨S', e, AQ.trans hA hk1 hq⟩
theorem AQ.str {c : Nat} (h : AQ (1, j, t) k c0 S0 S s) (hc : c < 3) (hl : s.length + 2 ≤ 18) : ∃ S', evm (d + 6) 174 [aR (1, j, t), aR (0, c, 1)] S = some (.inl (some (aR (1, j, t))), S') ∧ AQ (1, j, t) k (c0 + 1) S0 S' (s ++ sc c) := by
  obtain ⟨hA, k1, n1, hk1, hk2, hT1⟩ := h
  obtain ⟨S', e, hq⟩ := str_ok (d := d) hT1 hk2 hA.2.2.1 hc hl
  exact ⟨S', e, AQ.trans hA hk1 hq⟩
theorem AQ.len (h : AQ (1, j, t) k c0 S0 S s) : evm (d + 2) 194 [aR (1, j, t)] S = some (.inl (some (aI (N s.length))), S) := by
  obtain ⟨hA, k1, n1, hk1, hk2, hT1⟩ := h
  simp only [m194, s194_0, s194_1, s194_4, m195, s195_0, s195_1, s195_4, hT1.2.2.2.2.1, if_false, if_true, ck_v, ck_x, Option.toList, List.cons_append, List.nil_append, kil_nil, N_1, o10, o00, exN_0, exN_1, exN_2, exN_3, exN_4, exN_5, Ex]
theorem AQ.rd (h : AQ (1, j, t) k c0 S0 S s) {x : OId} (h1 : x.1 ≠ 60) (h2 : 2 ≤ x.1) : S.1 x = S0.1 x ∧ S.2.1 x = S0.2.1 x ∧ S.2.2.1 x = S0.2.2.1 x := h.1.1 x (fun q => by rw [q] at h2; have h9 : 2 ≤ 1 := h2; omega) (fun q => absurd q h1) (fun q => absurd q (by omega))
theorem ev_ldcw {c : Nat → List AV → SS → Option Out} {M pc pc' i n : Nat} {L : List (Option AV)} {L2 : List (Nat × AV)} {St : List AV} {a b e : Nat} {z : Int} (h : insAt M pc = some (.ldc_w i, n, (1, a, b, e), z)) (hp : pc + 3 = pc') : ev c M pc L L2 St S = ev c M pc' L L2 (aR (0, a, 1) :: St) S := by
  subst hp
  exact ev_go h rfl
theorem n171_61 {c : Nat → List AV → SS → Option Out} {L : List (Option AV)} {L2 : List (Nat × AV)} {St : List AV} : ev c 171 61 L L2 St S = ev c 171 64 L L2 (aR (0, 0, 1) :: St) S := by
  have i0 : insAt 171 61 = some (.ldc_w 312, 3, (1, 0, 0, 0), 0) := rfl
  exact ev_ldcw i0 rfl
theorem n171_86 {c : Nat → List AV → SS → Option Out} {L : List (Option AV)} {L2 : List (Nat × AV)} {St : List AV} : ev c 171 86 L L2 St S = ev c 171 89 L L2 (aR (0, 1, 1) :: St) S := by
  have i0 : insAt 171 86 = some (.ldc_w 317, 3, (1, 1, 0, 0), 0) := rfl
  exact ev_ldcw i0 rfl
theorem n171_92 {c : Nat → List AV → SS → Option Out} {L : List (Option AV)} {L2 : List (Nat × AV)} {St : List AV} : ev c 171 92 L L2 St S = ev c 171 95 L L2 (aR (0, 2, 1) :: St) S := by
  have i0 : insAt 171 92 = some (.ldc_w 319, 3, (1, 2, 0, 0), 0) := rfl
  exact ev_ldcw i0 rfl
end TEXT6
section TEXT7
variable {d k n : Nat} {I : OId → Nat → Int32} {M R : OId → Nat → AV} {G : SG} {V : Vw} {s : List Nat}
theorem writeStation_ok {id : Int32} {p a x y c e : Nat} (hR : RF R) (hB : BV I 0 V) (hf : fid V id = p) (hp : p < vn V) (ha : a < 1000) (hx : x < 100) (hy : y < 100) (hc : c < 10) (he : e < 1400) (f0 : vf V p 0 = N a) (f1 : vf V p 1 = N x) (f2 : vf V p 2 = N y) (f3 : vf V p 3 = N c) (f4 : vf V p 4 = N e) (hT : TX (I, M, R, G) (1, 0, 0) k n s) (hk : k < nq (I, M, R, G)) (hn : nms (I, M, R, G) = []) : ∃ S', evm (d + 9) 171 [aR (11, 0, 0), aI id] (I, M, R, G) = some (.inl (some (aI (N (lineT a x y c e (vl V p)).length))), S') ∧ AQ (1, 0, 0) k 9 (I, M, R, G) S' (lineT a x y c e (vl V p)) := by
  have la := dg_3 ha
  have lx := dg_2 hx
  have ly := dg_2 hy
  have lc := dg_1 hc
  have le := dg_len e
  have h7 := hB.lt hp
  obtain ⟨S1, e1, q1⟩ := setLen_ok (d := d + 5) hT hk hn
  obtain ⟨S2, e2, q2⟩ := q1.int (d := d + 3) (v := a) (by omega) (by simp only [List.length_nil]; omega)
  obtain ⟨S3, e3, q3⟩ := q2.chr (d := d + 3) (c := 64) (by omega) (by simp only [List.length_append, List.length_nil]; omega)
  obtain ⟨S4, e4, q4⟩ := q3.int (d := d + 3) (v := x) (by omega) (by simp only [List.length_append, List.length_nil, List.length_cons]; omega)
  obtain ⟨S5, e5, q5⟩ := q4.chr (d := d + 3) (c := 44) (by omega) (by simp only [List.length_append, List.length_nil, List.length_cons]; omega)
  obtain ⟨S6, e6, q6⟩ := q5.int (d := d + 3) (v := y) (by omega) (by simp only [List.length_append, List.length_nil, List.length_cons]; omega)
  obtain ⟨S7, e7, q7⟩ := q6.str (d := d + 2) (c := 0) (by omega) (by simp only [List.length_append, List.length_nil, List.length_cons]; omega)
  obtain ⟨S8, e8, q8⟩ := q7.int (d := d + 3) (v := c) (by omega) (by simp only [List.length_append, List.length_nil, List.length_cons, sc_len]; omega)
  obtain ⟨S9, e9, q9⟩ := q8.str (d := d + 2) (c := if vl V p = true then 2 else 1) (by split <;> omega) (by simp only [List.length_append, List.length_nil, List.length_cons, sc_len]; omega)
  obtain ⟨S10, e10, q10⟩ := q9.int (d := d + 3) (v := e) (by omega) (by simp only [List.length_append, List.length_nil, List.length_cons, sc_len]; omega)
  replace e1 : evm (d + 8) 172 [aR (1, 0, 0), aI 0] (I, M, R, G) = some (.inl none, S1) := e1
  replace e2 : evm (d + 8) 186 [aR (1, 0, 0), aI (N a)] S1 = some (.inl (some (aR (1, 0, 0))), S2) := e2
  replace e3 : evm (d + 8) 199 [aR (1, 0, 0), aI 64] S2 = some (.inl (some (aR (1, 0, 0))), S3) := e3
  replace e4 : evm (d + 8) 186 [aR (1, 0, 0), aI (N x)] S3 = some (.inl (some (aR (1, 0, 0))), S4) := e4
  replace e5 : evm (d + 8) 199 [aR (1, 0, 0), aI 44] S4 = some (.inl (some (aR (1, 0, 0))), S5) := e5
  replace e6 : evm (d + 8) 186 [aR (1, 0, 0), aI (N y)] S5 = some (.inl (some (aR (1, 0, 0))), S6) := e6
  replace e7 : evm (d + 8) 174 [aR (1, 0, 0), aR (0, 0, 1)] S6 = some (.inl (some (aR (1, 0, 0))), S7) := e7
  replace e8 : evm (d + 8) 186 [aR (1, 0, 0), aI (N c)] S7 = some (.inl (some (aR (1, 0, 0))), S8) := e8
  replace e9 : evm (d + 8) 174 [aR (1, 0, 0), aR (0, if vl V p = true then 2 else 1, 1)] S8 = some (.inl (some (aR (1, 0, 0))), S9) := e9
  replace e10 : evm (d + 8) 186 [aR (1, 0, 0), aI (N e)] S9 = some (.inl (some (aR (1, 0, 0))), S10) := e10
  have e11 : evm (d + 8) 194 [aR (1, 0, 0)] S10 = some (.inl (some (aI (N (lineT a x y c e (vl V p)).length))), S10) := q10.len (d := d + 6)
  have hR6 : R (11, 0, 0) 6 = aR (1, 0, 0) := hR.o.2.2.2.2.2
  have r1 : S1.2.2.1 (11, 0, 0) 6 = aR (1, 0, 0) := by rw [(q1.rd (x := (11, 0, 0)) (by simp) (by simp)).2.2]; exact hR6
  have r6 : S6.2.2.1 (11, 0, 0) 6 = aR (1, 0, 0) := by rw [(q6.rd (x := (11, 0, 0)) (by simp) (by simp)).2.2]; exact hR6
  have r8 : S8.2.2.1 (11, 0, 0) 6 = aR (1, 0, 0) := by rw [(q8.rd (x := (11, 0, 0)) (by simp) (by simp)).2.2]; exact hR6
  have r10 : S10.2.2.1 (11, 0, 0) 6 = aR (1, 0, 0) := by rw [(q10.rd (x := (11, 0, 0)) (by simp) (by simp)).2.2]; exact hR6
  have i1 : S1.1 (10, 0, p) 0 = N a := by rw [(q1.rd (x := (10, 0, p)) (by simp) (by simp)).1]; exact (hB.fl hp (show 0 < 5 by decide)).trans f0
  have i3 : S3.1 (10, 0, p) 1 = N x := by rw [(q3.rd (x := (10, 0, p)) (by simp) (by simp)).1]; exact (hB.fl hp (show 1 < 5 by decide)).trans f1
  have i5 : S5.1 (10, 0, p) 2 = N y := by rw [(q5.rd (x := (10, 0, p)) (by simp) (by simp)).1]; exact (hB.fl hp (show 2 < 5 by decide)).trans f2
  have i7 : S7.1 (10, 0, p) 3 = N c := by rw [(q7.rd (x := (10, 0, p)) (by simp) (by simp)).1]; exact (hB.fl hp (show 3 < 5 by decide)).trans f3
  have i9 : S9.1 (10, 0, p) 4 = N e := by rw [(q9.rd (x := (10, 0, p)) (by simp) (by simp)).1]; exact (hB.fl hp (show 4 < 5 by decide)).trans f4
  have i8 : bb (S8.1 (10, 0, p) 5) = if vl V p = true then 0 else 1 := by rw [(q8.rd (x := (10, 0, p)) (by simp) (by simp)).1]; exact hB.2.2.2.2.1 p hp
  have hpl : evm (d + 8) 90 [aR (11, 0, 0), aI id] (I, M, R, G) = some (.inl (some (aI (N p))), (I, M, R, G)) := by
    have h9 := placeOf_ok (d := d + 5) (M := M) (G := G) (id := id) hR hB
    rw [hf, if_pos hp] at h9
    exact h9
  refine ⟨S10, ?_, q10⟩
  by_cases hl : vl V p = true
  · rw [if_pos hl] at e9 i8
    simp only [m171, s171_0, s171_1, s171_4, s171_5, s171_6, s171_9, s171_12, s171_13, s171_14, s171_17, s171_18, s171_21, s171_22, s171_25, s171_26, s171_29, s171_32, s171_34, s171_37, s171_38, s171_41, s171_44, s171_46, s171_49, s171_50, s171_53, s171_56, s171_57, s171_58, s171_64, s171_67, s171_68, s171_71, s171_74, s171_75, s171_76, s171_79, s171_80, s171_83, s171_95, s171_98, s171_99, s171_102, s171_105, s171_106, s171_107, s171_110, s171_113, n171_61, n171_92, hR.o.1, hpl, at_N hR (show 0 < 8 by decide) h7, hR6, e1, e2, e3, e4, e5, e6, e7, e8, e9, e10, e11, r1, r6, r8, r10, i1, i3, i5, i7, i8, i9, if_false, if_true, ck_v, ck_x, Option.toList, List.cons_append, List.nil_append, kil_nil, N_1, o10, o00, exN_0, exN_1, exN_2, exN_3, exN_4, exN_5, Ex]
  · rw [if_neg hl] at e9 i8
    simp only [m171, s171_0, s171_1, s171_4, s171_5, s171_6, s171_9, s171_12, s171_13, s171_14, s171_17, s171_18, s171_21, s171_22, s171_25, s171_26, s171_29, s171_32, s171_34, s171_37, s171_38, s171_41, s171_44, s171_46, s171_49, s171_50, s171_53, s171_56, s171_57, s171_58, s171_64, s171_67, s171_68, s171_71, s171_74, s171_75, s171_76, s171_79, s171_80, s171_83, s171_89, s171_95, s171_98, s171_99, s171_102, s171_105, s171_106, s171_107, s171_110, s171_113, n171_61, n171_86, hR.o.1, hpl, at_N hR (show 0 < 8 by decide) h7, hR6, e1, e2, e3, e4, e5, e6, e7, e8, e9, e10, e11, r1, r6, r8, r10, i1, i3, i5, i7, i8, i9, if_false, if_true, ck_v, ck_x, Option.toList, List.cons_append, List.nil_append, kil_nil, N_1, o10, o00, exN_0, exN_1, exN_2, exN_3, exN_4, exN_5, Ex]
theorem writeStation_no {id : Int32} (hR : RF R) (hB : BV I 0 V) (hf : ¬ fid V id < vn V) : evm (d + 9) 171 [aR (11, 0, 0), aI id] (I, M, R, G) = Ex 3 (I, M, R, G) := by
  have hpl : evm (d + 8) 90 [aR (11, 0, 0), aI id] (I, M, R, G) = Ex 3 (I, M, R, G) := by
    have h9 := placeOf_ok (d := d + 5) (M := M) (G := G) (id := id) hR hB
    rw [if_neg hf] at h9
    exact h9
  simp only [m171, s171_0, s171_1, s171_4, s171_5, s171_6, s171_21, s171_22, s171_25, s171_26, s171_29, s171_32, s171_34, s171_37, s171_38, s171_41, s171_44, s171_46, s171_49, s171_50, s171_53, s171_56, s171_57, s171_58, s171_64, s171_67, s171_68, s171_71, s171_74, s171_75, s171_76, s171_79, s171_80, s171_83, s171_89, s171_95, s171_98, s171_99, s171_102, s171_105, s171_106, s171_107, s171_110, s171_113, hR.o.1, hpl, if_false, if_true, ck_v, ck_x, Option.toList, List.cons_append, List.nil_append, kil_nil, N_1, o10, o00, exN_0, exN_1, exN_2, exN_3, exN_4, exN_5, Ex]
end TEXT7
