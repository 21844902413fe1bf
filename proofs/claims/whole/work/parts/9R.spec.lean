/-! THE METHODS' MEANING: the office and the model are made -/
def ofcNm : List OId := (4, 0, 0) :: (nmB 0 ++ ((5, 0, 0) :: (hiN ++ ((4, 7, 0) :: (nmB 7 ++ ((6, 0, 0) :: (netNm ++ ((8, 0, 0) :: (serNm ++ ((9, 0, 0) :: (spaNm ++ [(1, 0, 0)])))))))))))
def modN : List OId := [(35, 0, 0), (36, 0, 0), (37, 0, 0), (38, 0, 0), (39, 0, 0), (40, 0, 0), (41, 0, 0)]
def ofcOk (S : SS) : Prop := (bkR S.2.2.1 0 ∧ bkI S.1 0 ∧ hisRf S.2.2.1 ∧ hs5 S.2.2.1 S.1 ∧ bkR S.2.2.1 7 ∧ netRf S.2.2.1 ∧ serRf S.2.2.1 ∧ spaRf S.2.2.1 S.2.1) ∧ (S.2.2.1 (11, 0, 0) 0 = aR (4, 0, 0) ∧ S.2.2.1 (11, 0, 0) 1 = aR (5, 0, 0) ∧ S.2.2.1 (11, 0, 0) 2 = aR (4, 7, 0) ∧ S.2.2.1 (11, 0, 0) 4 = aR (8, 0, 0) ∧ S.2.2.1 (11, 0, 0) 5 = aR (9, 0, 0)) ∧ S.1 (11, 0, 0) 3 = 0
theorem PBk_4 {j : Nat} {x : OId} (h : PBk j x) : 4 ≤ x.1 ∧ x.1 ≤ 34 ∧ x.1 ≠ 12 := by
  have := (PBk_c h).2
  omega
theorem bkI_fr {I I' : OId → Nat → Int32} {j : Nat} (h : bkI I j) (e : ∀ x, PBk j x → I' x = I x) : bkI I' j := by
  have e4 : I' (4, j, 0) = I (4, j, 0) := e _ (Or.inl ⟨rfl, by simp⟩)
  have e7 : I' (7, j, 0) = I (7, j, 0) := e _ (Or.inl ⟨rfl, by simp⟩)
  have e21 : I' (21, j, 0) = I (21, j, 0) := e _ (Or.inl ⟨rfl, by simp⟩)
  unfold bkI at h ⊢
  rw [e4, e7, e21]
  exact h
/-- all but the office's own fields -/
def ofc1 (S : SS) : Prop := bkR S.2.2.1 0 ∧ bkI S.1 0 ∧ hisRf S.2.2.1 ∧ hs5 S.2.2.1 S.1 ∧ bkR S.2.2.1 7 ∧ netRf S.2.2.1 ∧ serRf S.2.2.1 ∧ spaRf S.2.2.1 S.2.1
theorem ofc1_fr {S S' : SS} (h : ofc1 S) (e : ∀ x : OId, 4 ≤ x.1 → x.1 ≤ 34 → x.1 ≠ 12 → x.1 ≠ 11 → S'.1 x = S.1 x ∧ S'.2.1 x = S.2.1 x ∧ S'.2.2.1 x = S.2.2.1 x) : ofc1 S' := by
  obtain ⟨h1, h2, h3, h4, h5, h6, h7, h8⟩ := h
  have eP : ∀ j x, PBk j x → S'.1 x = S.1 x ∧ S'.2.1 x = S.2.1 x ∧ S'.2.2.1 x = S.2.2.1 x := fun j x hx => by
    have := (PBk_c hx).2
    exact e x (by omega) (by omega) (by omega) (by omega)
  have e5 := e (5, 0, 0) (by simp) (by simp) (by simp) (by simp)
  have e6 := e (6, 0, 0) (by simp) (by simp) (by simp) (by simp)
  have e8 := e (8, 0, 0) (by simp) (by simp) (by simp) (by simp)
  have e78 := e (7, 8, 0) (by simp) (by simp) (by simp) (by simp)
  have e9 := e (9, 0, 0) (by simp) (by simp) (by simp) (by simp)
  have e34 := e (34, 0, 0) (by simp) (by simp) (by simp) (by simp)
  refine ⟨bkR_fr h1 (fun x hx => (eP _ x hx).2.2), bkI_fr h2 (fun x hx => (eP _ x hx).1), his_ok h3 (fun x hx => ?_), ?_, bkR_fr h5 (fun x hx => (eP _ x hx).2.2), ?_, ?_, ?_⟩
  · have := PHi_c hx
    exact (e x (by omega) (by omega) (by omega) (by omega)).2.2
  · unfold hs5 at h4 ⊢
    rw [e5.1, e5.2.2]
    exact h4
  · unfold netRf at h6 ⊢
    rw [e6.2.2]
    exact h6
  · unfold serRf at h7 ⊢
    rw [e8.2.2, e78.2.2]
    exact h7
  · unfold spaRf at h8 ⊢
    rw [e9.2.2, e34.2.1]
    exact h8
section START
variable {d L : Nat} {S : SS} {ns : List OId}
theorem k0 (hW : namW S) (hn : nms S = ofcNm ++ ns) : ∃ S' k, evm (d + 6) 0 [aR (11, 0, 0)] S = some (.inl none, S') ∧ ofc1 S' ∧ (S'.2.2.1 (11, 0, 0) 0 = aR (4, 0, 0) ∧ S'.2.2.1 (11, 0, 0) 1 = aR (5, 0, 0) ∧ S'.2.2.1 (11, 0, 0) 2 = aR (4, 7, 0) ∧ S'.2.2.1 (11, 0, 0) 4 = aR (8, 0, 0) ∧ S'.2.2.1 (11, 0, 0) 5 = aR (9, 0, 0) ∧ S'.2.2.1 (11, 0, 0) 6 = aR (1, 0, 0)) ∧ S'.1 (11, 0, 0) 3 = 0 ∧ TX S' (1, 0, 0) k 16 [] ∧ k < nq S' ∧ namW S' ∧ nms S' = ns ∧ cel S' = cel S + 140 ∧ slo S' = slo S + 3662 ∧ xsS S' = xsS S ∧ ∀ x, x ∈ S'.2.2.2.1 → x ∈ S.2.2.2.1 ∨ x ∈ ofcNm ∨ x.1 = 60 := by
  have hn' : nms S = (4, 0, 0) :: (nmB 0 ++ ((5, 0, 0) :: (hiN ++ ((4, 7, 0) :: (nmB 7 ++ ((6, 0, 0) :: (netNm ++ ((8, 0, 0) :: (serNm ++ ((9, 0, 0) :: (spaNm ++ ((1, 0, 0) :: ns)))))))))))) := by
    rw [hn]
    simp [ofcNm]
  obtain ⟨S1, e1, m1, b0, i0, hh, h5, b7, nn, ss, sp, r0, r1, r2, r4, r5, q3, l3⟩ := k0h (d := d) hW hn'
  have hn1 : nms S1 = ns := by
    have h9 := m1.2.1
    rw [hn'] at h9
    simpa using h9.symm
  obtain ⟨S2, e2, hT, hfr, g1, g2, g3, g4, g5, g6⟩ := sbInit (d := d + 2) l3
  have e2' : evm (d + 5) 8 [aR (1, 0, 0)] S1 = some (.inl none, S2) := e2
  obtain ⟨S3, hS3⟩ : ∃ S3 : SS, S3 = (S2.1, S2.2.1, setV S2.2.2.1 (11, 0, 0) 6 (aR (1, 0, 0)), S2.2.2.2) := ⟨_, rfl⟩
  have f1 : ∀ x : OId, 4 ≤ x.1 → x.1 ≠ 60 → S2.1 x = S1.1 x ∧ S2.2.1 x = S1.2.1 x ∧ S2.2.2.1 x = S1.2.2.1 x := fun x h1 h2 => hfr x (fun q => by rw [q] at h1; have h9 : 4 ≤ 1 := h1; omega) (fun q => h2 (by rw [q]))
  have f3 : ∀ x : OId, S3.1 x = S2.1 x ∧ S3.2.1 x = S2.2.1 x := fun x => by
    rw [hS3]
    exact ⟨rfl, rfl⟩
  have f4 : ∀ x : OId, x ≠ (11, 0, 0) → S3.2.2.1 x = S2.2.2.1 x := fun x hx => by
    rw [hS3]
    exact setV_o hx
  have f11 : ∀ f, S3.2.2.1 (11, 0, 0) f = if f = 6 then aR (1, 0, 0) else S1.2.2.1 (11, 0, 0) f := fun f => by
    rw [hS3]
    show (if ((11, 0, 0) : OId) = (11, 0, 0) ∧ f = 6 then aR (1, 0, 0) else S2.2.2.1 (11, 0, 0) f) = _
    rw [(f1 (11, 0, 0) (by simp) (by simp)).2.2]
    simp
  have w2 : namW S2 := by
    obtain ⟨w1, w3⟩ := m1.2.2.1
    refine ⟨by rw [g2]; exact w1, fun o ho => ?_⟩
    rw [g2] at ho
    obtain ⟨a1, a2, a3, a4⟩ := w3 o ho
    refine ⟨fun q => ?_, a2, a3, a4⟩
    rw [g6] at q
    rcases List.mem_append.mp q with q | q
    · exact a1 q
    · rw [List.mem_singleton.mp q] at a4
      exact a4 rfl
  refine ⟨S3, nq S1, ?_, ?_, ⟨by rw [f11]; exact r0, by rw [f11]; exact r1, by rw [f11]; exact r2, by rw [f11]; exact r4, by rw [f11]; exact r5, by rw [f11]; rfl⟩, ?_, ?_, ?_, ?_, ?_, ?_, ?_, ?_, ?_⟩
  · rw [e1]
    simp only [s0_79, s0_82, s0_85, e2', if_false, if_true, ck_v, ck_x, Option.toList, List.cons_append, List.nil_append, kil_nil, N_1, o10, o00, exN_0, exN_1, exN_2, exN_3, exN_4, exN_5, Ex]
    rw [hS3]
  · refine ofc1_fr (S := S1) ⟨b0, i0, hh, h5, b7, nn, ss, sp⟩ (fun x h1 h2 h3 h4 => ?_)
    obtain ⟨c1, c2, c3⟩ := f1 x h1 (by omega)
    exact ⟨(f3 x).1.trans c1, (f3 x).2.trans c2, (f4 x (fun q => h4 (by rw [q]))).trans c3⟩
  · rw [(f3 _).1, (f1 (11, 0, 0) (by simp) (by simp)).1]
    exact q3
  · rw [hS3]
    exact hT
  · rw [hS3]
    show nq S1 < nq S2
    omega
  · rw [hS3]
    exact w2
  · rw [hS3]
    exact g2.trans hn1
  · have h9 := m1.2.2.2.2.1
    rw [hS3]
    show cel S2 = _
    omega
  · have h9 := m1.2.2.2.2.2.1
    rw [hS3]
    show slo S2 = _
    omega
  · rw [hS3]
    exact g5.trans m1.2.2.2.2.2.2.1
  · intro x hx
    rw [hS3] at hx
    have hx' : x ∈ S2.2.2.2.1 := hx
    rw [g6] at hx'
    rcases List.mem_append.mp hx' with q | q
    · rcases m1.2.2.2.2.2.2.2 x q with q | q
      · exact Or.inl q
      · refine Or.inr (Or.inl ?_)
        have hl : ofcNm = ((((((((((([(4, 0, 0)] ++ nmB 0) ++ [(5, 0, 0)]) ++ hiN) ++ [(4, 7, 0)]) ++ nmB 7) ++ [(6, 0, 0)]) ++ netNm) ++ [(8, 0, 0)]) ++ serNm) ++ [(9, 0, 0)]) ++ spaNm) ++ [(1, 0, 0)] := by simp [ofcNm]
        rw [hl]
        exact q
    · rw [List.mem_singleton.mp q]
      exact Or.inr (Or.inr rfl)
theorem n214_105 {c : Nat → List AV → SS → Option Out} {L : List (Option AV)} {L2 : List (Nat × AV)} {St : List AV} (hn : nms S = []) : ev c 214 105 L L2 St S = ev c 214 108 L L2 (aR (1, nq S, 2) :: St) (mk S (1, nq S, 2) (nq S + 1) [] 4) := by
  exact ev_newc (pc' := 108) i214_105 rfl rfl hn (by decide)
theorem kIw35 {i : Nat} {r : Option Out} (h : i < 106) : kIw (35, 0, 0) (N i) r = r := by
  show (if inB (N i) 106 = true ∧ isRo (35, 0, 0) = false then r else none) = r
  rw [if_pos ⟨inB_N h (by omega), rfl⟩]
theorem k214 (hW : namW S) (hn : nms S = modN) : ∃ S' q, evm (d + 8) 214 [aR (12, 0, 0)] S = some (.inl none, S') ∧ (S'.2.2.1 (12, 0, 0) 0 = aR (35, 0, 0) ∧ S'.2.2.1 (12, 0, 0) 1 = aR (36, 0, 0) ∧ S'.2.2.1 (12, 0, 0) 2 = aR (37, 0, 0) ∧ S'.2.2.1 (12, 0, 0) 3 = aR (38, 0, 0) ∧ S'.2.2.1 (12, 0, 0) 4 = aR (39, 0, 0) ∧ S'.2.2.1 (12, 0, 0) 5 = aR (40, 0, 0) ∧ S'.2.2.1 (12, 0, 0) 6 = aR (41, 0, 0)) ∧ (S'.1 (12, 0, 0) 8 = 0 ∧ S'.1 (12, 0, 0) 15 = 0) ∧ (∀ f, S'.1 (35, 0, 0) f = if f = 0 then 10 else if f = 1 then 20 else if f = 2 then 40 else if f = 8 then -1 else 0) ∧ S'.2.1 (12, 0, 0) 16 = aR (0, q, 2) ∧ txM S' (0, q, 2) (q + 1) [] ∧ nq S ≤ q ∧ q + 1 < nq S' ∧ nms S' = [] ∧ (∀ x : OId, x ≠ (12, 0, 0) → ¬ (35 ≤ x.1 ∧ x.1 ≤ 41) → (x.1 = 60 → x.2.1 < nq S) → (x.1 < 2 → x.2.2 = 2 → x.2.1 < nq S) → S'.1 x = S.1 x ∧ S'.2.1 x = S.2.1 x ∧ S'.2.2.1 x = S.2.2.1 x) ∧ cel S' = cel S + 11 ∧ slo S' ≤ slo S + 1007 ∧ xsS S' = xsS S ∧ ∀ x, x ∈ S'.2.2.2.1 → x ∈ S.2.2.2.1 ∨ x ∈ modN ∨ x.1 = 60 ∨ x.1 < 2 := by
  have hn' : nms S = (35, 0, 0) :: (36, 0, 0) :: (37, 0, 0) :: (38, 0, 0) :: (39, 0, 0) :: (40, 0, 0) :: (41, 0, 0) :: [] := hn
  obtain ⟨S1, e1, m1, r0, r1, r2, r3, r4, r5, r6, i8, i15, c35⟩ := k214h (d := d) hW hn'
  have hn1 : nms S1 = [] := by
    have h9 := m1.2.1
    rw [hn'] at h9
    simpa using h9.symm
  obtain ⟨S2, hS2⟩ : ∃ S2 : SS, S2 = mk S1 (1, nq S1, 2) (nq S1 + 1) [] 4 := ⟨_, rfl⟩
  have h23 : S2.1 (1, nq S1, 2) 3 = 0 := by rw [hS2]; exact if_pos rfl
  have hq2 : nq S2 = nq S1 + 1 := (congrArg (fun T : SS => nq T) hS2).trans rfl
  have hn2 : nms S2 = [] := (congrArg (fun T : SS => nms T) hS2).trans rfl
  have hl2 : S2.2.2.2.1 = S1.2.2.2.1 ++ [(1, nq S1, 2)] := (congrArg (fun T : SS => T.2.2.2.1) hS2).trans rfl
  have hc2 : cel S2 = cel S1 + 1 := (congrArg (fun T : SS => cel T) hS2).trans rfl
  have hs2 : slo S2 = slo S1 + 4 := (congrArg (fun T : SS => slo T) hS2).trans rfl
  have hx2 : xsS S2 = xsS S1 := (congrArg (fun T : SS => xsS T) hS2).trans rfl
  obtain ⟨S3, e3, hT, hfr, g1, g2, g3, g4, g5, g6⟩ := sbInit (d := d + 4) h23
  rw [hn2] at g2
  rw [hq2] at hT hfr g1 g6
  obtain ⟨U, eu, hM, hFY, hqU, hnU, hcU, hsU, hxU, hlU⟩ := toString_ok (d := d + 1) hT (by omega) g2 (by simp only [List.length_nil]; omega)
  have en : ∀ (c : Nat → List AV → SS → Option Out) (L : List (Option AV)) (L2 : List (Nat × AV)) (St : List AV), ev c 214 105 L L2 St S1 = ev c 214 108 L L2 (aR (1, nq S1, 2) :: St) S2 := by
    intro c L L2 St
    rw [hS2]
    exact n214_105 hn1
  replace e3 : evm (d + 7) 8 [aR (1, nq S1, 2)] S2 = some (.inl none, S3) := e3
  replace eu : evm (d + 7) 190 [aR (1, nq S1, 2)] S3 = some (.inl (some (aR (0, nq S3, 2))), U) := eu
  have hq1 : nq S ≤ nq S1 := m1.2.2.2.1
  have frU : ∀ x : OId, (x.1 = 60 → x.2.1 < nq S) → (x.1 < 2 → x.2.2 = 2 → x.2.1 < nq S) → U.1 x = S1.1 x ∧ U.2.1 x = S1.2.1 x ∧ U.2.2.1 x = S1.2.2.1 x := fun x h1 h2 => by
    obtain ⟨a1, a2, a3⟩ := hFY x (fun q => by have := h1 q; omega) (fun q r => by have := h2 q r; omega)
    have n1 : x ≠ (1, nq S1, 2) := fun q => by
      have := h2 (by rw [q]; show 1 < 2; omega) (by rw [q])
      rw [q] at this
      have h9 : nq S1 < nq S := this
      omega
    have n6 : x ≠ (60, nq S1 + 1, 16) := fun q => by
      have := h1 (by rw [q])
      rw [q] at this
      have h9 : nq S1 + 1 < nq S := this
      omega
    obtain ⟨b1, b2, b3⟩ := hfr x n1 n6
    rw [a1, a2, a3, b1, b2, b3, hS2, mk_I n1, mk_M n1, mk_R n1]
    exact ⟨rfl, rfl, rfl⟩
  have u12 := frU (12, 0, 0) (by simp) (by simp)
  have u35 := frU (35, 0, 0) (by simp) (by simp)
  have hr0 : U.2.2.1 (12, 0, 0) 0 = aR (35, 0, 0) := by rw [u12.2.2]; exact r0
  have w0 : ∀ r : Option Out, kIw (35, 0, 0) 0 r = r := fun r => kIw35 (i := 0) (by omega)
  have w1 : ∀ r : Option Out, kIw (35, 0, 0) 1 r = r := fun r => kIw35 (i := 1) (by omega)
  have w2 : ∀ r : Option Out, kIw (35, 0, 0) 2 r = r := fun r => kIw35 (i := 2) (by omega)
  have w8 : ∀ r : Option Out, kIw (35, 0, 0) 8 r = r := fun r => kIw35 (i := 8) (by omega)
  have no : ((0, nq S3, 2) : OId) ≠ (12, 0, 0) := by simp
  have n3 : ((0, nq S3, 2) : OId) ≠ (35, 0, 0) := by simp
  obtain ⟨J, hJ⟩ : ∃ J : OId → Nat → Int32, J = setI (setI (setI (setI U.1 (35, 0, 0) 0 10) (35, 0, 0) 1 20) (35, 0, 0) 2 40) (35, 0, 0) 8 (-1) := ⟨_, rfl⟩
  have jo : ∀ x : OId, x ≠ (35, 0, 0) → J x = U.1 x := fun x hx => by
    rw [hJ]
    exact (setI_o hx).trans ((setI_o hx).trans ((setI_o hx).trans (setI_o hx)))
  obtain ⟨K, hK⟩ : ∃ K : OId → Nat → AV, K = setV U.2.1 (12, 0, 0) 16 (aR (0, nq S3, 2)) := ⟨_, rfl⟩
  have ko : ∀ x : OId, x ≠ (12, 0, 0) → K x = U.2.1 x := fun x hx => by
    rw [hK]
    exact setV_o hx
  refine ⟨(J, K, U.2.2), nq S3, ?_, ?_, ?_, ?_, ?_, ?_, ?_, ?_, hnU, ?_, ?_, ?_, ?_, ?_⟩
  · rw [e1]
    simp only [s214_108, s214_109, s214_112, s214_115, s214_118, s214_119, s214_122, s214_123, s214_125, s214_126, s214_127, s214_130, s214_131, s214_133, s214_134, s214_135, s214_138, s214_139, s214_141, s214_142, s214_143, s214_146, s214_148, s214_149, s214_150, en, e3, eu, hr0, w0, w1, w2, w8, cl0, cl1, cl2, cl8, if_false, if_true, ck_v, ck_x, Option.toList, List.cons_append, List.nil_append, kil_nil, N_1, o10, o00, exN_0, exN_1, exN_2, exN_3, exN_4, exN_5, Ex]
    rw [hJ, hK]
  · show (U.2.2.1 (12, 0, 0) 0 = aR (35, 0, 0) ∧ U.2.2.1 (12, 0, 0) 1 = aR (36, 0, 0) ∧ U.2.2.1 (12, 0, 0) 2 = aR (37, 0, 0) ∧ U.2.2.1 (12, 0, 0) 3 = aR (38, 0, 0) ∧ U.2.2.1 (12, 0, 0) 4 = aR (39, 0, 0) ∧ U.2.2.1 (12, 0, 0) 5 = aR (40, 0, 0) ∧ U.2.2.1 (12, 0, 0) 6 = aR (41, 0, 0))
    rw [u12.2.2]
    exact ⟨r0, r1, r2, r3, r4, r5, r6⟩
  · show J (12, 0, 0) 8 = 0 ∧ J (12, 0, 0) 15 = 0
    rw [jo _ (by simp), u12.1]
    exact ⟨i8, i15⟩
  · intro f
    show J (35, 0, 0) f = _
    have h9 : U.1 (35, 0, 0) f = 0 := by rw [u35.1]; exact c35 f
    rw [hJ]
    by_cases f8 : f = 8
    · subst f8
      rfl
    · rw [setI_k f8]
      by_cases f2 : f = 2
      · subst f2
        rfl
      · rw [setI_k f2]
        by_cases f1 : f = 1
        · subst f1
          rfl
        · rw [setI_k f1]
          by_cases f0 : f = 0
          · subst f0
            rfl
          · rw [setI_k f0, h9, if_neg f0, if_neg f1, if_neg f2, if_neg f8]
  · show K (12, 0, 0) 16 = _
    rw [hK]
    exact setV_y
  · refine ⟨?_, ?_, fun i hi => absurd hi (Nat.not_lt_zero _)⟩
    · show K (0, nq S3, 2) 0 = _
      rw [ko _ no]
      exact hM.1
    · show J (0, nq S3, 2) 1 = 0
      rw [jo _ n3]
      exact hM.2.1
  · omega
  · show nq S3 + 1 < nq U
    omega
  · intro x h1 h2 h3 h4
    obtain ⟨a1, a2, a3⟩ := frU x h3 h4
    have hP : ¬ (x = (12, 0, 0) ∨ 35 ≤ x.1 ∧ x.1 ≤ 41) := fun q => q.elim h1 h2
    obtain ⟨b1, b2, b3⟩ := m1.1 x hP
    refine ⟨?_, ?_, ?_⟩
    · show J x = _
      rw [jo x (fun q => h2 (by rw [q]; simp))]
      exact a1.trans b1
    · show K x = _
      rw [ko x h1]
      exact a2.trans b2
    · exact a3.trans b3
  · have h9 := m1.2.2.2.2.1
    show cel U = _
    omega
  · have h9 := m1.2.2.2.2.2.1
    show slo U ≤ _
    omega
  · show xsS U = _
    rw [hxU, g5, hx2]
    exact m1.2.2.2.2.2.2.1
  · intro x hx
    have hx' : x ∈ U.2.2.2.1 := hx
    rw [hlU, g6, hl2] at hx'
    simp only [List.mem_append, List.mem_singleton] at hx'
    rcases hx' with (((q | q) | q) | q) | q
    · rcases m1.2.2.2.2.2.2.2 x q with q | q
      · exact Or.inl q
      · exact Or.inr (Or.inl q)
    · rw [q]
      exact Or.inr (Or.inr (Or.inr (by show 1 < 2; omega)))
    · rw [q]
      exact Or.inr (Or.inr (Or.inl rfl))
    · rw [q]
      exact Or.inr (Or.inr (Or.inr (by show 0 < 2; omega)))
    · rw [q]
      exact Or.inr (Or.inr (Or.inl rfl))
end START
