/-! THE METHODS' MEANING: the constructors with loops (genK2.py) -/
theorem kN20 {j : Nat} {f : Int32 → Option Out} : kN (20, j, 0) f = f 7 := rfl
theorem kN25 {f : Int32 → Option Out} : kN (25, 0, 0) f = f 6 := rfl
theorem k1l {d j : Nat} : ∀ (r i : Nat) (S : SS) (ns : List OId), i + r = 7 → namW S → nms S = staNm j i r ++ ns → S.2.2.1 (4, j, 0) 8 = aR (20, j, 0) → ∃ S', ev (evm (d + 2)) 1 88 [some (aR (4, j, 0)), some (aI (N i))] [] [] S = some (.inl none, S') ∧ mdN (fun x : OId => x.1 = 10 ∧ x.2.1 = j ∨ x = (20, j, 0)) S S' (staNm j i r) r (6 * r) ∧ (∀ k, i ≤ k → k < 7 → S'.2.2.1 (20, j, 0) k = aR (10, j, k)) ∧ ∀ k, k < i → S'.2.2.1 (20, j, 0) k = S.2.2.1 (20, j, 0) k
  | 0, i, S, ns, hi, hW, hn, h8 => by
    have hi7 : i = 7 := by omega
    subst hi7
    have z : ((7 : Int32) ≤ N 7) = True := by decide
    refine ⟨S, ?_, mdN.rf hW, fun k h1 h2 => by omega, fun k _ => rfl⟩
    rw [s1_88]
    simp only [m1, s1_0, s1_1, s1_4, s1_5, s1_7, s1_10, s1_11, s1_13, s1_16, s1_17, s1_19, s1_22, s1_23, s1_24, s1_27, s1_28, s1_29, s1_32, s1_33, s1_34, s1_37, s1_38, s1_39, s1_42, s1_43, s1_44, s1_47, s1_48, s1_53, s1_56, s1_60, s1_61, s1_64, s1_67, s1_68, s1_72, s1_75, s1_79, s1_80, s1_83, s1_86, s1_87, s1_89, s1_90, s1_93, s1_94, s1_97, s1_98, s1_101, s1_105, s1_106, s1_110, s1_113, s1_116, h8, kN20, z, if_false, if_true, ck_v, ck_x, Option.toList, List.cons_append, List.nil_append, kil_nil, N_1, o10, o00, exN_0, exN_1, exN_2, exN_3, exN_4, exN_5, Ex]
  | r + 1, i, S, ns, hi, hW, hn, h8 => by
    have hn' : nms S = (10, j, i) :: (staNm j (i + 1) r ++ ns) := hn
    obtain ⟨A, hA⟩ : ∃ A : SS, A = mk S (10, j, i) (nq S) (staNm j (i + 1) r ++ ns) 6 := ⟨_, rfl⟩
    obtain ⟨B, hB⟩ : ∃ B : SS, B = (A.1, A.2.1, setV A.2.2.1 (20, j, 0) i (aR (10, j, i)), A.2.2.2) := ⟨_, rfl⟩
    have x1 : ∀ (c : Nat → List AV → SS → Option Out) (L : List (Option AV)) (L2 : List (Nat × AV)) (St : List AV), ev c 1 102 L L2 St S = ev c 1 105 L L2 (aR (10, j, i) :: St) A := by
      intro c L L2 St
      rw [hA]
      exact ev_nw (pc' := 105) i1_102 rfl rfl hW hn' rfl
    have x2 : ∀ (c : Nat → List AV → SS → Option Out) (L : List (Option AV)) (L2 : List (Nat × AV)) (St : List AV), ev c 1 109 L L2 (aR (10, j, i) :: aI (N i) :: aR (20, j, 0) :: St) A = ev c 1 110 L L2 St B := by
      intro c L L2 St
      rw [hB]
      exact ev_aas (C := "FrequencyOffice$Station") (m := 7) (cv := 10) i1_109 rfl rfl rfl rfl (by omega) (by decide)
    have u1 : mdN (fun x : OId => x.1 = 10 ∧ x.2.1 = j ∨ x = (20, j, 0)) S A [(10, j, i)] 1 6 := by
      rw [hA]
      exact md_al hW hn' (Or.inl ⟨rfl, rfl⟩)
    have u2 : mdN (fun x : OId => x.1 = 10 ∧ x.2.1 = j ∨ x = (20, j, 0)) A B [] 0 0 := by
      rw [hB]
      exact md_R u1.2.2.1 (Or.inr rfl)
    have hA20 : A.2.2.1 (20, j, 0) = S.2.2.1 (20, j, 0) := by
      rw [hA]
      exact mk_R (by simp)
    have hB8 : B.2.2.1 (4, j, 0) 8 = aR (20, j, 0) := by
      have e1 : B.2.2.1 (4, j, 0) = A.2.2.1 (4, j, 0) := (u2.1 (4, j, 0) (by simp)).2.2
      have e2 : A.2.2.1 (4, j, 0) = S.2.2.1 (4, j, 0) := (u1.1 (4, j, 0) (by simp)).2.2
      rw [e1, e2]
      exact h8
    have hBn : nms B = staNm j (i + 1) r ++ ns := by
      rw [hB, hA]
      rfl
    obtain ⟨S', e1, m1, f1, f2⟩ := k1l r (i + 1) B ns (by omega) u2.2.2.1 hBn hB8
    have eB : ∀ k, B.2.2.1 (20, j, 0) k = if k = i then aR (10, j, i) else S.2.2.1 (20, j, 0) k := by
      intro k
      rw [hB]
      show (if ((20, j, 0) : OId) = (20, j, 0) ∧ k = i then aR (10, j, i) else A.2.2.1 (20, j, 0) k) = _
      rw [hA20]
      simp
    have hlt : (7 ≤ N i) = False := N7 (by omega)
    refine ⟨S', ?_, ?_, fun k h1 h2 => ?_, fun k hk => ?_⟩
    · rw [s1_88]
      simp only [m1, s1_0, s1_1, s1_4, s1_5, s1_7, s1_10, s1_11, s1_13, s1_16, s1_17, s1_19, s1_22, s1_23, s1_24, s1_27, s1_28, s1_29, s1_32, s1_33, s1_34, s1_37, s1_38, s1_39, s1_42, s1_43, s1_44, s1_47, s1_48, s1_53, s1_56, s1_60, s1_61, s1_64, s1_67, s1_68, s1_72, s1_75, s1_79, s1_80, s1_83, s1_86, s1_87, s1_89, s1_90, s1_93, s1_94, s1_97, s1_98, s1_101, s1_105, s1_106, s1_110, s1_113, kN20, hlt, h8, x1, k2, x2, N_1, if_false, if_true, ck_v, ck_x, Option.toList, List.cons_append, List.nil_append, kil_nil, N_1, o10, o00, exN_0, exN_1, exN_2, exN_3, exN_4, exN_5, Ex]
      exact e1
    · have m9 := (u1.tr u2).tr m1
      have e9 : 6 * (r + 1) = 6 + 0 + 6 * r := by omega
      have e8 : r + 1 = 1 + 0 + r := by omega
      show mdN _ S S' ([(10, j, i)] ++ [] ++ staNm j (i + 1) r) (r + 1) (6 * (r + 1))
      rw [e9, e8]
      exact m9
    · by_cases hk : k = i
      · subst hk
        rw [f2 k (by omega), eB, if_pos rfl]
      · exact f1 k (by omega) h2
    · rw [f2 k (by omega), eB, if_neg (by omega)]
def nmB (j : Nat) : List OId := (20, j, 0) :: (10, j, 7) :: (21, j, 0) :: (7, j, 0) :: (plN j ++ staNm j 0 7)
theorem k1 {d j : Nat} {S : SS} {ns : List OId} (hW : namW S) (hn : nms S = nmB j ++ (ns)) : ∃ S', evm (d + 3) 1 [aR (4, j, 0)] S = some (.inl none, S') ∧ mdN (PBk j) S S' (nmB j) 14 115 ∧ bkR S'.2.2.1 j ∧ bkI S'.1 j := by
  have hn' : nms S = (20, j, 0) :: (10, j, 7) :: (21, j, 0) :: (7, j, 0) :: (plN j ++ (staNm j 0 7 ++ ns)) := by
    rw [hn]
    simp [nmB]
  obtain ⟨S1, e1, m1, i0, i1, i2, i3, i4, i5, i6, i7, q0, c0, r8, r9, ra, rb, p2, p3, p4⟩ := k1h (d := d) hW hn'
  have hn1 : nms S1 = staNm j 0 7 ++ ns := by
    have h9 := m1.2.1
    rw [hn'] at h9
    simpa using h9.symm
  obtain ⟨S2, e2, m2, f1, f2⟩ := k1l (d := d) 7 0 S1 ns rfl m1.2.2.1 hn1 r8
  have e4 : S2.2.2.1 (4, j, 0) = S1.2.2.1 (4, j, 0) := (m2.1 (4, j, 0) (by simp)).2.2
  have e7 : S2.2.2.1 (7, j, 0) = S1.2.2.1 (7, j, 0) := (m2.1 (7, j, 0) (by simp)).2.2
  have g4 : S2.1 (4, j, 0) = S1.1 (4, j, 0) := (m2.1 (4, j, 0) (by simp)).1
  have g7 : S2.1 (7, j, 0) = S1.1 (7, j, 0) := (m2.1 (7, j, 0) (by simp)).1
  have g2 : S2.1 (21, j, 0) = S1.1 (21, j, 0) := (m2.1 (21, j, 0) (by simp)).1
  refine ⟨S2, e1.trans e2, ?_, ⟨⟨by rw [e4]; exact r8, by rw [e4]; exact r9, by rw [e4]; exact ra, by rw [e4]; exact rb, fun k hk => f1 k (Nat.zero_le _) hk⟩, by rw [e7]; exact p2, by rw [e7]; exact p3, by rw [e7]; exact p4⟩, ⟨by rw [g4]; exact i0, by rw [g4]; exact i1, by rw [g4]; exact i2, by rw [g4]; exact i3, by rw [g4]; exact i4, by rw [g4]; exact i5, by rw [g4]; exact i6, by rw [g4]; exact i7⟩, by rw [g7]; exact q0, fun f => by rw [g2]; exact c0 f⟩
  have m9 := m1.tr (m2.wk (Q := PBk j) (fun x hx => by
    rcases hx with ⟨h1, h2⟩ | h
    · exact Or.inl ⟨h2, Or.inr (Or.inl h1)⟩
    · exact Or.inr h))
  have hl : nmB j = [(20, j, 0), (10, j, 7), (21, j, 0), (7, j, 0)] ++ plN j ++ staNm j 0 7 := by simp [nmB]
  rw [hl]
  exact m9
def hisNm : Nat → Nat → List OId
  | _, 0 => []
  | i, r + 1 => (4, i + 1, 0) :: (nmB (i + 1) ++ hisNm (i + 1) r)
def PHi (x : OId) : Prop := x = (25, 0, 0) ∨ ∃ j, 1 ≤ j ∧ j ≤ 6 ∧ PBk j x
def hisRf (R : OId → Nat → AV) : Prop := ∀ i, i < 6 → R (25, 0, 0) i = aR (4, i + 1, 0) ∧ bkR R (i + 1)
theorem bkR_fr {R R' : OId → Nat → AV} {j : Nat} (h : bkR R j) (e : ∀ x, PBk j x → R' x = R x) : bkR R' j := by
  have e4 : R' (4, j, 0) = R (4, j, 0) := e _ (Or.inl ⟨rfl, by simp⟩)
  have e7 : R' (7, j, 0) = R (7, j, 0) := e _ (Or.inl ⟨rfl, by simp⟩)
  have e20 : R' (20, j, 0) = R (20, j, 0) := e _ (Or.inr rfl)
  unfold bkR at h ⊢
  rw [e4, e7, e20]
  exact h
theorem PBk_1 {j : Nat} {x : OId} (h : PBk j x) : x.2.1 = j := by
  rcases h with h | h
  · exact h.1
  · rw [h]
theorem his_ok {R R' : OId → Nat → AV} (h : hisRf R) (e : ∀ x, PHi x → R' x = R x) : hisRf R' := fun i hi => by
  obtain ⟨h1, h2⟩ := h i hi
  refine ⟨by rw [e _ (Or.inl rfl)]; exact h1, bkR_fr h2 (fun x hx => e x (Or.inr ⟨i + 1, by omega, by omega, hx⟩))⟩
theorem k4l {d : Nat} : ∀ (r i : Nat) (S : SS) (ns : List OId), i + r = 6 → namW S → nms S = hisNm i r ++ ns → S.2.2.1 (5, 0, 0) 0 = aR (25, 0, 0) → (∀ k, k < i → S.2.2.1 (25, 0, 0) k = aR (4, k + 1, 0) ∧ bkR S.2.2.1 (k + 1)) → ∃ S', ev (evm (d + 3)) 4 25 [some (aR (5, 0, 0)), some (aI (N i))] [] [] S = some (.inl none, S') ∧ mdN PHi S S' (hisNm i r) (15 * r) (127 * r) ∧ hisRf S'.2.2.1
  | 0, i, S, ns, hi, hW, hn, h0, hb => by
    have hi6 : i = 6 := by omega
    subst hi6
    have z : ((6 : Int32) ≤ N 6) = True := by decide
    refine ⟨S, ?_, mdN.rf hW, fun k hk => hb k hk⟩
    rw [s4_25]
    simp only [m4, s4_0, s4_1, s4_4, s4_5, s4_10, s4_13, s4_14, s4_15, s4_18, s4_19, s4_20, s4_23, s4_24, s4_26, s4_27, s4_30, s4_31, s4_34, s4_35, s4_38, s4_42, s4_43, s4_47, s4_50, s4_53, h0, kN25, z, if_false, if_true, ck_v, ck_x, Option.toList, List.cons_append, List.nil_append, kil_nil, N_1, o10, o00, exN_0, exN_1, exN_2, exN_3, exN_4, exN_5, Ex]
  | r + 1, i, S, ns, hi, hW, hn, h0, hb => by
    have hn' : nms S = (4, i + 1, 0) :: (nmB (i + 1) ++ (hisNm (i + 1) r ++ ns)) := by
      rw [hn]
      simp [hisNm]
    obtain ⟨A, hA⟩ : ∃ A : SS, A = mk S (4, i + 1, 0) (nq S) (nmB (i + 1) ++ (hisNm (i + 1) r ++ ns)) 12 := ⟨_, rfl⟩
    have x1 : ∀ (c : Nat → List AV → SS → Option Out) (L : List (Option AV)) (L2 : List (Nat × AV)) (St : List AV), ev c 4 39 L L2 St S = ev c 4 42 L L2 (aR (4, i + 1, 0) :: St) A := by
      intro c L L2 St
      rw [hA]
      exact ev_nw (pc' := 42) i4_39 rfl rfl hW hn' rfl
    have pin : PBk (i + 1) (4, i + 1, 0) := Or.inl ⟨rfl, by simp⟩
    have u1 : mdN (PBk (i + 1)) S A [(4, i + 1, 0)] 1 12 := by
      rw [hA]
      exact md_al hW hn' pin
    have hAn : nms A = nmB (i + 1) ++ (hisNm (i + 1) r ++ ns) := by
      rw [hA]
      rfl
    obtain ⟨C, e2, u2, b1, b2⟩ := k1 (d := d) u1.2.2.1 hAn
    obtain ⟨B, hB⟩ : ∃ B : SS, B = (C.1, C.2.1, setV C.2.2.1 (25, 0, 0) i (aR (4, i + 1, 0)), C.2.2.2) := ⟨_, rfl⟩
    have x2 : ∀ (c : Nat → List AV → SS → Option Out) (L : List (Option AV)) (L2 : List (Nat × AV)) (St : List AV), ev c 4 46 L L2 (aR (4, i + 1, 0) :: aI (N i) :: aR (25, 0, 0) :: St) C = ev c 4 47 L L2 St B := by
      intro c L L2 St
      rw [hB]
      exact ev_aas (C := "FrequencyOffice$Books") (m := 6) (cv := 4) i4_46 rfl rfl rfl rfl (by omega) (by decide)
    have u3 : mdN (fun x : OId => x = (25, 0, 0)) C B [] 0 0 := by
      rw [hB]
      exact md_R u2.2.2.1 rfl
    have u12 := u1.tr u2
    have wk1 : ∀ x, PBk (i + 1) x → PHi x := fun x hx => Or.inr ⟨i + 1, by omega, by omega, hx⟩
    have u13 := (u12.wk wk1).tr (u3.wk (Q := PHi) (fun x hx => Or.inl hx))
    have n25 : ¬ PBk (i + 1) (25, 0, 0) := by
      intro q
      have := PBk_1 q
      simp at this
    have e25 : C.2.2.1 (25, 0, 0) = S.2.2.1 (25, 0, 0) := (u12.1 _ n25).2.2
    have eB : ∀ k, B.2.2.1 (25, 0, 0) k = if k = i then aR (4, i + 1, 0) else S.2.2.1 (25, 0, 0) k := by
      intro k
      rw [hB]
      show (if ((25, 0, 0) : OId) = (25, 0, 0) ∧ k = i then aR (4, i + 1, 0) else C.2.2.1 (25, 0, 0) k) = _
      rw [e25]
      simp
    have oB : ∀ x : OId, x ≠ (25, 0, 0) → B.2.2.1 x = C.2.2.1 x := fun x hx => (u3.1 x hx).2.2
    have hB0 : B.2.2.1 (5, 0, 0) 0 = aR (25, 0, 0) := by
      have n5' : ¬ PBk (i + 1) (5, 0, 0) := by
        intro q
        have := PBk_1 q
        simp at this
      rw [oB _ (by simp), (u12.1 _ n5').2.2]
      exact h0
    have p25 : ∀ j x, PBk j x → x ≠ (25, 0, 0) := fun j x hx q => by
      rw [q] at hx
      rcases hx with h | h
      · have := h.2
        simp at this
      · simp at h
    have hBb : ∀ k, k < i + 1 → B.2.2.1 (25, 0, 0) k = aR (4, k + 1, 0) ∧ bkR B.2.2.1 (k + 1) := by
      intro k hk
      by_cases hki : k = i
      · subst hki
        exact ⟨by rw [eB, if_pos rfl], bkR_fr b1 (fun x hx => oB x (p25 _ x hx))⟩
      · obtain ⟨g1, g2⟩ := hb k (by omega)
        refine ⟨by rw [eB, if_neg hki]; exact g1, bkR_fr g2 (fun x hx => ?_)⟩
        rw [oB x (p25 _ x hx)]
        refine (u12.1 x (fun q => ?_)).2.2
        have h1 := PBk_1 q
        have h2 := PBk_1 hx
        omega
    have hBn : nms B = hisNm (i + 1) r ++ ns := by
      have h9 := u13.2.1
      rw [hn'] at h9
      simpa using h9.symm
    obtain ⟨S', e1, m1, f1⟩ := k4l r (i + 1) B ns (by omega) u13.2.2.1 hBn hB0 hBb
    have hlt : (6 ≤ N i) = False := N_ge (show i < 6 by omega) (by decide)
    refine ⟨S', ?_, ?_, f1⟩
    · rw [s4_25]
      simp only [m4, s4_0, s4_1, s4_4, s4_5, s4_10, s4_13, s4_14, s4_15, s4_18, s4_19, s4_20, s4_23, s4_24, s4_26, s4_27, s4_30, s4_31, s4_34, s4_35, s4_38, s4_42, s4_43, s4_47, s4_50, kN25, hlt, h0, x1, e2, x2, N_1, if_false, if_true, ck_v, ck_x, Option.toList, List.cons_append, List.nil_append, kil_nil, N_1, o10, o00, exN_0, exN_1, exN_2, exN_3, exN_4, exN_5, Ex]
      exact e1
    · have m9 := u13.tr m1
      have hl : hisNm i (r + 1) = [(4, i + 1, 0)] ++ nmB (i + 1) ++ [] ++ hisNm (i + 1) r := by simp [hisNm]
      have e9 : 127 * (r + 1) = 12 + 115 + 0 + 127 * r := by omega
      have e8 : 15 * (r + 1) = 1 + 14 + 0 + 15 * r := by omega
      rw [hl, e9, e8]
      exact m9

theorem k4h {d : Nat} {S : SS} {ns : List OId}  (hW : namW S) (hn : nms S = (25, 0, 0) :: ns)  : ∃ S', evm (d + 4) 4 [aR (5, 0, 0)] S = ev (evm (d + 3)) 4 25 [some (aR (5, 0, 0)), some (aI 0)] [] [] S' ∧ mdN (fun x : OId => x = (5, 0, 0) ∨ x = (25, 0, 0)) S S' [(25, 0, 0)] 1 6 ∧ S'.2.2.1 (5, 0, 0) 0 = aR (25, 0, 0) ∧ S'.1 (5, 0, 0) 1 = 0 ∧ S'.1 (5, 0, 0) 2 = 0 := by
  have p0 : (fun x : OId => x = (5, 0, 0) ∨ x = (25, 0, 0)) (25, 0, 0) := by simp
  have p1 : (fun x : OId => x = (5, 0, 0) ∨ x = (25, 0, 0)) (5, 0, 0) := by simp
  have w0 : mdN (fun x : OId => x = (5, 0, 0) ∨ x = (25, 0, 0)) S S [] 0 0 := mdN.rf hW
  obtain ⟨A1, hA1⟩ : ∃ A1 : SS, A1 = mk S (25, 0, 0) (nq S) (ns) 6 := ⟨_, rfl⟩
  have t1 : nms S = (25, 0, 0) :: ns := hn
  have x1 : ∀ (c : Nat → List AV → SS → Option Out) (L : List (Option AV)) (L2 : List (Nat × AV)) (St : List AV), ev c 4 7 L L2 (aI 6 :: St) S = ev c 4 10 L L2 (aR (25, 0, 0) :: St) A1 := by
    intro c L L2 St
    rw [hA1]
    exact ev_anw (m := 6) (pc' := 10) i4_7 rfl (by decide) w0.2.2.1 t1 rfl
  have u1 : mdN (fun x : OId => x = (25, 0, 0)) S A1 [(25, 0, 0)] 1 6 := by
    rw [hA1]
    exact md_al w0.2.2.1 t1 rfl
  have v1 : mdN (fun x : OId => x = (5, 0, 0) ∨ x = (25, 0, 0)) S A1 [(25, 0, 0)] 1 6 := w0.tr (u1.wk (fun x hx => by rw [hx]; exact p0))
  obtain ⟨B2, hB2⟩ : ∃ B2 : SS, B2 = (setI (setI A1.1 (5, 0, 0) 1 0) (5, 0, 0) 2 0, A1.2.1, setV A1.2.2.1 (5, 0, 0) 0 (aR (25, 0, 0)), A1.2.2.2) := ⟨_, rfl⟩
  have u2 : mdN (fun x : OId => x = (5, 0, 0)) A1 B2 [] 0 0 := by
    rw [hB2]
    exact ⟨fun x hx => ⟨((setI_o (fun q => hx q)).trans (setI_o (fun q => hx q))), rfl, (setV_o (fun q => hx q))⟩, rfl, v1.2.2.1, Nat.le_refl _, rfl, rfl, rfl, fun _ q => Or.inl q⟩
  have v2 : mdN (fun x : OId => x = (5, 0, 0) ∨ x = (25, 0, 0)) S B2 [(25, 0, 0)] 1 6 := v1.tr (u2.wk (fun x hx => by rcases hx with rfl; exact p1))
  refine ⟨B2, ?_, v2, ?_, ?_, ?_⟩
  · simp only [m4, s4_0, s4_1, s4_4, s4_5, s4_10, s4_13, s4_14, s4_15, s4_18, s4_19, s4_20, s4_23, s4_24, x1, if_false, if_true, ck_v, ck_x, Option.toList, List.cons_append, List.nil_append, kil_nil, N_1, o10, o00, exN_0, exN_1, exN_2, exN_3, exN_4, exN_5, Ex]
    rw [hB2]
  · skip
    (try simp only [hB2, hA1]) <;> (try simp [mk, setRow, setRowV, setI, setV, hB2, hA1])
  · skip
    (try simp only [hB2, hA1]) <;> (try simp [mk, setRow, setRowV, setI, setV, hB2, hA1])
  · skip
    (try simp only [hB2, hA1]) <;> (try simp [mk, setRow, setRowV, setI, setV, hB2, hA1])

def hiN : List OId := (25, 0, 0) :: hisNm 0 6
def PH5 (x : OId) : Prop := x = (5, 0, 0) ∨ PHi x
theorem k4 {d : Nat} {S : SS} {ns : List OId} (hW : namW S) (hn : nms S = hiN ++ (ns)) : ∃ S', evm (d + 4) 4 [aR (5, 0, 0)] S = some (.inl none, S') ∧ mdN PH5 S S' hiN 91 768 ∧ hisRf S'.2.2.1 ∧ S'.2.2.1 (5, 0, 0) 0 = aR (25, 0, 0) ∧ S'.1 (5, 0, 0) 1 = 0 ∧ S'.1 (5, 0, 0) 2 = 0 := by
  have hn' : nms S = (25, 0, 0) :: (hisNm 0 6 ++ ns) := by
    rw [hn]
    simp [hiN]
  obtain ⟨S1, e1, m1, r0, i1, i2⟩ := k4h (d := d) hW hn'
  have hn1 : nms S1 = hisNm 0 6 ++ ns := by
    have h9 := m1.2.1
    rw [hn'] at h9
    simpa using h9.symm
  obtain ⟨S2, e2, m2, f1⟩ := k4l (d := d) 6 0 S1 ns rfl m1.2.2.1 hn1 r0 (fun k hk => absurd hk (Nat.not_lt_zero _))
  have n5' : ¬ PHi (5, 0, 0) := by
    rintro (h | ⟨j, h1, h2, h3⟩)
    · simp at h
    · have h4 := PBk_1 h3
      have h5 : (0 : Nat) = j := h4
      omega
  have g5 := m2.1 _ n5'
  refine ⟨S2, e1.trans e2, ?_, f1, by rw [g5.2.2]; exact r0, by rw [g5.1]; exact i1, by rw [g5.1]; exact i2⟩
  have m9 := (m1.wk (Q := PH5) (fun x hx => by
    rcases hx with h | h
    · exact Or.inl h
    · exact Or.inr (Or.inl h))).tr (m2.wk (Q := PH5) (fun x hx => Or.inr hx))
  have hl : hiN = [(25, 0, 0)] ++ hisNm 0 6 := rfl
  rw [hl]
  exact m9

