/-! THE METHODS' MEANING: the constructors of the office and the model (genK3.py) -/
theorem PBk_c {j : Nat} {x : OId} (h : PBk j x) : x.2.1 = j ∧ (x.1 = 4 ∨ x.1 = 10 ∨ x.1 = 21 ∨ x.1 = 7 ∨ x.1 = 22 ∨ x.1 = 23 ∨ x.1 = 24 ∨ x.1 = 20) := by
  rcases h with ⟨h1, h2⟩ | h
  · exact ⟨h1, by omega⟩
  · rw [h]
    simp
theorem PHi_c {x : OId} (h : PHi x) : x.1 = 25 ∨ 1 ≤ x.2.1 ∧ x.2.1 ≤ 6 ∧ (x.1 = 4 ∨ x.1 = 10 ∨ x.1 = 21 ∨ x.1 = 7 ∨ x.1 = 22 ∨ x.1 = 23 ∨ x.1 = 24 ∨ x.1 = 20) := by
  rcases h with h | ⟨j, h1, h2, h3⟩
  · rw [h]
    simp
  · obtain ⟨g1, g2⟩ := PBk_c h3
    exact Or.inr ⟨by omega, by omega, g2⟩
def netNm : List OId := [(26, 0, 0), (27, 0, 0), (28, 0, 0), (29, 0, 0)]
def serNm : List OId := (7, 8, 0) :: (plN 8 ++ [(30, 0, 0), (31, 0, 0), (32, 0, 0)])
def spaNm : List OId := [(33, 0, 0), (34, 0, 0)]
def netRf (R : OId → Nat → AV) : Prop := R (6, 0, 0) 1 = aR (26, 0, 0) ∧ R (6, 0, 0) 2 = aR (27, 0, 0) ∧ R (6, 0, 0) 3 = aR (28, 0, 0) ∧ R (6, 0, 0) 4 = aR (29, 0, 0)
def serRf (R : OId → Nat → AV) : Prop := (R (8, 0, 0) 0 = aR (6, 0, 0) ∧ R (8, 0, 0) 1 = aR (7, 8, 0) ∧ R (8, 0, 0) 2 = aR (30, 0, 0) ∧ R (8, 0, 0) 3 = aR (31, 0, 0) ∧ R (8, 0, 0) 4 = aR (32, 0, 0)) ∧ R (7, 8, 0) 2 = aR (22, 8, 0) ∧ R (7, 8, 0) 3 = aR (23, 8, 0) ∧ R (7, 8, 0) 4 = aR (24, 8, 0)
def spaRf (R M : OId → Nat → AV) : Prop := (R (9, 0, 0) 0 = aR (6, 0, 0) ∧ R (9, 0, 0) 1 = aR (33, 0, 0) ∧ R (9, 0, 0) 2 = aR (34, 0, 0)) ∧ ∀ f, M (34, 0, 0) f = aL 0
def hs5 (R : OId → Nat → AV) (I : OId → Nat → Int32) : Prop := R (5, 0, 0) 0 = aR (25, 0, 0) ∧ I (5, 0, 0) 1 = 0 ∧ I (5, 0, 0) 2 = 0
theorem cn5' {d : Nat} {S : SS} {ns : List OId} (hW : namW S) (hn : nms S = netNm ++ (ns)) : ∃ S', evm (d + 2) 5 [aR (6, 0, 0)] S = some (.inl none, S') ∧ mdN (fun x : OId => x = (6, 0, 0) ∨ x = (26, 0, 0) ∨ x = (27, 0, 0) ∨ x = (28, 0, 0) ∨ x = (29, 0, 0)) S S' netNm 4 70 ∧ netRf S'.2.2.1 := cn5 hW hn
theorem cn6' {d : Nat} {S : SS} {ns : List OId} (hW : namW S) (hn : nms S = serNm ++ (ns)) : ∃ S', evm (d + 3) 6 [aR (8, 0, 0), aR (6, 0, 0)] S = some (.inl none, S') ∧ mdN (fun x : OId => x = (8, 0, 0) ∨ x = (7, 8, 0) ∨ x = (22, 8, 0) ∨ x = (23, 8, 0) ∨ x = (24, 8, 0) ∨ x = (30, 0, 0) ∨ x = (31, 0, 0) ∨ x = (32, 0, 0)) S S' serNm 7 2476 ∧ serRf S'.2.2.1 := by
  have hn' : nms S = (7, 8, 0) :: (plN 8 ++ ((30, 0, 0) :: (31, 0, 0) :: (32, 0, 0) :: ns)) := by
    rw [hn]
    simp [serNm]
  obtain ⟨S', e, m, a1, a2, a3, a4, a5, a6, a7, a8⟩ := cn6 (d := d) hW hn'
  have hl : serNm = ((([(7, 8, 0)] ++ plN 8) ++ [(30, 0, 0)]) ++ [(31, 0, 0)]) ++ [(32, 0, 0)] := by simp [serNm]
  refine ⟨S', e, ?_, ⟨a1, a2, a3, a4, a5⟩, a6, a7, a8⟩
  rw [hl]
  exact m
theorem cn7' {d : Nat} {S : SS} {ns : List OId} (hW : namW S) (hn : nms S = spaNm ++ (ns)) : ∃ S', evm (d + 2) 7 [aR (9, 0, 0), aR (6, 0, 0)] S = some (.inl none, S') ∧ mdN (fun x : OId => x = (9, 0, 0) ∨ x = (33, 0, 0) ∨ x = (34, 0, 0)) S S' spaNm 2 56 ∧ spaRf S'.2.2.1 S'.2.1 := by
  obtain ⟨S', e, m, a1, a2, a3, a4⟩ := cn7 (d := d) hW hn
  exact ⟨S', e, m, ⟨a1, a2, a3⟩, a4⟩

theorem k0h {d : Nat} {S : SS} {ns : List OId}  (hW : namW S) (hn : nms S = (4, 0, 0) :: (nmB 0 ++ ((5, 0, 0) :: (hiN ++ ((4, 7, 0) :: (nmB 7 ++ ((6, 0, 0) :: (netNm ++ ((8, 0, 0) :: (serNm ++ ((9, 0, 0) :: (spaNm ++ ((1, 0, 0) :: ns)))))))))))))  : ∃ S', evm (d + 6) 0 [aR (11, 0, 0)] S = ev (evm (d + 5)) 0 79 [some (aR (11, 0, 0)), some (aR (6, 0, 0))] [] [aR (1, 0, 0), aR (1, 0, 0), aR (11, 0, 0)] S' ∧ mdN (fun _ : OId => True) S S' (((((((((((([(4, 0, 0)] ++ nmB 0) ++ [(5, 0, 0)]) ++ hiN) ++ [(4, 7, 0)]) ++ nmB 7) ++ [(6, 0, 0)]) ++ netNm) ++ [(8, 0, 0)]) ++ serNm) ++ [(9, 0, 0)]) ++ spaNm) ++ [(1, 0, 0)]) 139 3646 ∧ bkR S'.2.2.1 0 ∧ bkI S'.1 0 ∧ hisRf S'.2.2.1 ∧ hs5 S'.2.2.1 S'.1 ∧ bkR S'.2.2.1 7 ∧ netRf S'.2.2.1 ∧ serRf S'.2.2.1 ∧ spaRf S'.2.2.1 S'.2.1 ∧ S'.2.2.1 (11, 0, 0) 0 = aR (4, 0, 0) ∧ S'.2.2.1 (11, 0, 0) 1 = aR (5, 0, 0) ∧ S'.2.2.1 (11, 0, 0) 2 = aR (4, 7, 0) ∧ S'.2.2.1 (11, 0, 0) 4 = aR (8, 0, 0) ∧ S'.2.2.1 (11, 0, 0) 5 = aR (9, 0, 0) ∧ S'.1 (11, 0, 0) 3 = 0 ∧ S'.1 (1, 0, 0) 3 = 0 := by
  have p0 : (fun _ : OId => True) (4, 0, 0) := trivial
  have p1 : (fun _ : OId => True) (11, 0, 0) := trivial
  have p2 : (fun _ : OId => True) (5, 0, 0) := trivial
  have p3 : (fun _ : OId => True) (4, 7, 0) := trivial
  have p4 : (fun _ : OId => True) (6, 0, 0) := trivial
  have p5 : (fun _ : OId => True) (8, 0, 0) := trivial
  have p6 : (fun _ : OId => True) (9, 0, 0) := trivial
  have p7 : (fun _ : OId => True) (1, 0, 0) := trivial
  have w0 : mdN (fun _ : OId => True) S S [] 0 0 := mdN.rf hW
  obtain ⟨A1, hA1⟩ : ∃ A1 : SS, A1 = mk S (4, 0, 0) (nq S) (nmB 0 ++ ((5, 0, 0) :: (hiN ++ ((4, 7, 0) :: (nmB 7 ++ ((6, 0, 0) :: (netNm ++ ((8, 0, 0) :: (serNm ++ ((9, 0, 0) :: (spaNm ++ ((1, 0, 0) :: ns)))))))))))) 12 := ⟨_, rfl⟩
  have t1 : nms S = (4, 0, 0) :: (nmB 0 ++ ((5, 0, 0) :: (hiN ++ ((4, 7, 0) :: (nmB 7 ++ ((6, 0, 0) :: (netNm ++ ((8, 0, 0) :: (serNm ++ ((9, 0, 0) :: (spaNm ++ ((1, 0, 0) :: ns)))))))))))) := hn
  have x1 : ∀ (c : Nat → List AV → SS → Option Out) (L : List (Option AV)) (L2 : List (Nat × AV)) (St : List AV), ev c 0 5 L L2 (St) S = ev c 0 8 L L2 (aR (4, 0, 0) :: St) A1 := by
    intro c L L2 St
    rw [hA1]
    exact ev_nw (pc' := 8) i0_5 rfl rfl w0.2.2.1 t1 rfl
  have u1 : mdN (fun x : OId => x = (4, 0, 0)) S A1 [(4, 0, 0)] 1 12 := by
    rw [hA1]
    exact md_al w0.2.2.1 t1 rfl
  have v1 : mdN (fun _ : OId => True) S A1 [(4, 0, 0)] 1 12 := w0.tr (u1.wk (fun x hx => trivial))
  have t2 : nms A1 = nmB 0 ++ ((5, 0, 0) :: (hiN ++ ((4, 7, 0) :: (nmB 7 ++ ((6, 0, 0) :: (netNm ++ ((8, 0, 0) :: (serNm ++ ((9, 0, 0) :: (spaNm ++ ((1, 0, 0) :: ns))))))))))) := by
    have h9 := v1.2.1
    rw [hn] at h9
    simpa using h9.symm
  obtain ⟨C2, x2, u2, ba2, bi2⟩ := k1 (d := d + 2) (j := 0) v1.2.2.1 t2
  have v2 : mdN (fun _ : OId => True) S C2 ([(4, 0, 0)] ++ nmB 0) 15 127 := v1.tr (u2.wk (fun x hx => trivial))
  have g2_0 : C2.2.2.1 (11, 0, 0) = A1.2.2.1 (11, 0, 0) := (u2.1 (11, 0, 0) (by first | (simp [PBk, inBk, PH5, PHi]; done) | (simp [PBk, inBk, PH5, PHi]; intros; omega))).2.2
  have g2_1 : C2.1 (11, 0, 0) = A1.1 (11, 0, 0) := (u2.1 (11, 0, 0) (by first | (simp [PBk, inBk, PH5, PHi]; done) | (simp [PBk, inBk, PH5, PHi]; intros; omega))).1
  obtain ⟨B3, hB3⟩ : ∃ B3 : SS, B3 = (C2.1, C2.2.1, setV C2.2.2.1 (11, 0, 0) 0 (aR (4, 0, 0)), C2.2.2.2) := ⟨_, rfl⟩
  have u3 : mdN (fun x : OId => x = (11, 0, 0)) C2 B3 [] 0 0 := by
    rw [hB3]
    exact ⟨fun x hx => ⟨rfl, rfl, (setV_o (fun q => hx q))⟩, rfl, v2.2.2.1, Nat.le_refl _, rfl, rfl, rfl, fun _ q => Or.inl q⟩
  have v3 : mdN (fun _ : OId => True) S B3 ([(4, 0, 0)] ++ nmB 0) 15 127 := v2.tr (u3.wk (fun x hx => trivial))
  have bk0_3 : bkR B3.2.2.1 0 := by
    have e0 := (u3.1 (4, 0, 0) (by first | (simp [PBk, inBk, PH5, PHi]; done) | (simp [PBk, inBk, PH5, PHi]; intros; omega))).2.2
    have e1 := (u3.1 (7, 0, 0) (by first | (simp [PBk, inBk, PH5, PHi]; done) | (simp [PBk, inBk, PH5, PHi]; intros; omega))).2.2
    have e2 := (u3.1 (20, 0, 0) (by first | (simp [PBk, inBk, PH5, PHi]; done) | (simp [PBk, inBk, PH5, PHi]; intros; omega))).2.2
    unfold bkR
    rw [e0, e1, e2]
    exact ba2
  have bi0_3 : bkI B3.1 0 := by
    have e0 := (u3.1 (4, 0, 0) (by first | (simp [PBk, inBk, PH5, PHi]; done) | (simp [PBk, inBk, PH5, PHi]; intros; omega))).1
    have e1 := (u3.1 (7, 0, 0) (by first | (simp [PBk, inBk, PH5, PHi]; done) | (simp [PBk, inBk, PH5, PHi]; intros; omega))).1
    have e2 := (u3.1 (21, 0, 0) (by first | (simp [PBk, inBk, PH5, PHi]; done) | (simp [PBk, inBk, PH5, PHi]; intros; omega))).1
    unfold bkI
    rw [e0, e1, e2]
    exact bi2
  obtain ⟨A4, hA4⟩ : ∃ A4 : SS, A4 = mk B3 (5, 0, 0) (nq B3) (hiN ++ ((4, 7, 0) :: (nmB 7 ++ ((6, 0, 0) :: (netNm ++ ((8, 0, 0) :: (serNm ++ ((9, 0, 0) :: (spaNm ++ ((1, 0, 0) :: ns)))))))))) 3 := ⟨_, rfl⟩
  have t4 : nms B3 = (5, 0, 0) :: (hiN ++ ((4, 7, 0) :: (nmB 7 ++ ((6, 0, 0) :: (netNm ++ ((8, 0, 0) :: (serNm ++ ((9, 0, 0) :: (spaNm ++ ((1, 0, 0) :: ns)))))))))) := by
    have h9 := v3.2.1
    rw [hn] at h9
    simpa using h9.symm
  have x4 : ∀ (c : Nat → List AV → SS → Option Out) (L : List (Option AV)) (L2 : List (Nat × AV)) (St : List AV), ev c 0 16 L L2 (St) (C2.1, C2.2.1, setV C2.2.2.1 (11, 0, 0) 0 (aR (4, 0, 0)), C2.2.2.2) = ev c 0 19 L L2 (aR (5, 0, 0) :: St) A4 := by
    intro c L L2 St
    rw [← hB3]
    rw [hA4]
    exact ev_nw (pc' := 19) i0_16 rfl rfl v3.2.2.1 t4 rfl
  have u4 : mdN (fun x : OId => x = (5, 0, 0)) B3 A4 [(5, 0, 0)] 1 3 := by
    rw [hA4]
    exact md_al v3.2.2.1 t4 rfl
  have v4 : mdN (fun _ : OId => True) S A4 (([(4, 0, 0)] ++ nmB 0) ++ [(5, 0, 0)]) 16 130 := v3.tr (u4.wk (fun x hx => trivial))
  have bk0_4 : bkR A4.2.2.1 0 := by
    have e0 := (u4.1 (4, 0, 0) (by first | (simp [PBk, inBk, PH5, PHi]; done) | (simp [PBk, inBk, PH5, PHi]; intros; omega))).2.2
    have e1 := (u4.1 (7, 0, 0) (by first | (simp [PBk, inBk, PH5, PHi]; done) | (simp [PBk, inBk, PH5, PHi]; intros; omega))).2.2
    have e2 := (u4.1 (20, 0, 0) (by first | (simp [PBk, inBk, PH5, PHi]; done) | (simp [PBk, inBk, PH5, PHi]; intros; omega))).2.2
    unfold bkR
    rw [e0, e1, e2]
    exact bk0_3
  have bi0_4 : bkI A4.1 0 := by
    have e0 := (u4.1 (4, 0, 0) (by first | (simp [PBk, inBk, PH5, PHi]; done) | (simp [PBk, inBk, PH5, PHi]; intros; omega))).1
    have e1 := (u4.1 (7, 0, 0) (by first | (simp [PBk, inBk, PH5, PHi]; done) | (simp [PBk, inBk, PH5, PHi]; intros; omega))).1
    have e2 := (u4.1 (21, 0, 0) (by first | (simp [PBk, inBk, PH5, PHi]; done) | (simp [PBk, inBk, PH5, PHi]; intros; omega))).1
    unfold bkI
    rw [e0, e1, e2]
    exact bi0_3
  have t5 : nms A4 = hiN ++ ((4, 7, 0) :: (nmB 7 ++ ((6, 0, 0) :: (netNm ++ ((8, 0, 0) :: (serNm ++ ((9, 0, 0) :: (spaNm ++ ((1, 0, 0) :: ns))))))))) := by
    have h9 := v4.2.1
    rw [hn] at h9
    simpa using h9.symm
  obtain ⟨C5, x5, u5, hh5, ha5, hb5, hc5⟩ := k4 (d := d + 1) v4.2.2.1 t5
  have v5 : mdN (fun _ : OId => True) S C5 ((([(4, 0, 0)] ++ nmB 0) ++ [(5, 0, 0)]) ++ hiN) 107 898 := v4.tr (u5.wk (fun x hx => trivial))
  have bk0_5 : bkR C5.2.2.1 0 := by
    have e0 := (u5.1 (4, 0, 0) (by first | (simp [PBk, inBk, PH5, PHi]; done) | (simp [PBk, inBk, PH5, PHi]; intros; omega))).2.2
    have e1 := (u5.1 (7, 0, 0) (by first | (simp [PBk, inBk, PH5, PHi]; done) | (simp [PBk, inBk, PH5, PHi]; intros; omega))).2.2
    have e2 := (u5.1 (20, 0, 0) (by first | (simp [PBk, inBk, PH5, PHi]; done) | (simp [PBk, inBk, PH5, PHi]; intros; omega))).2.2
    unfold bkR
    rw [e0, e1, e2]
    exact bk0_4
  have bi0_5 : bkI C5.1 0 := by
    have e0 := (u5.1 (4, 0, 0) (by first | (simp [PBk, inBk, PH5, PHi]; done) | (simp [PBk, inBk, PH5, PHi]; intros; omega))).1
    have e1 := (u5.1 (7, 0, 0) (by first | (simp [PBk, inBk, PH5, PHi]; done) | (simp [PBk, inBk, PH5, PHi]; intros; omega))).1
    have e2 := (u5.1 (21, 0, 0) (by first | (simp [PBk, inBk, PH5, PHi]; done) | (simp [PBk, inBk, PH5, PHi]; intros; omega))).1
    unfold bkI
    rw [e0, e1, e2]
    exact bi0_4
  have g5_0 : C5.2.2.1 (11, 0, 0) = A4.2.2.1 (11, 0, 0) := (u5.1 (11, 0, 0) (by first | (simp [PBk, inBk, PH5, PHi]; done) | (simp [PBk, inBk, PH5, PHi]; intros; omega))).2.2
  have g5_1 : C5.1 (11, 0, 0) = A4.1 (11, 0, 0) := (u5.1 (11, 0, 0) (by first | (simp [PBk, inBk, PH5, PHi]; done) | (simp [PBk, inBk, PH5, PHi]; intros; omega))).1
  obtain ⟨B6, hB6⟩ : ∃ B6 : SS, B6 = (C5.1, C5.2.1, setV C5.2.2.1 (11, 0, 0) 1 (aR (5, 0, 0)), C5.2.2.2) := ⟨_, rfl⟩
  have u6 : mdN (fun x : OId => x = (11, 0, 0)) C5 B6 [] 0 0 := by
    rw [hB6]
    exact ⟨fun x hx => ⟨rfl, rfl, (setV_o (fun q => hx q))⟩, rfl, v5.2.2.1, Nat.le_refl _, rfl, rfl, rfl, fun _ q => Or.inl q⟩
  have v6 : mdN (fun _ : OId => True) S B6 ((([(4, 0, 0)] ++ nmB 0) ++ [(5, 0, 0)]) ++ hiN) 107 898 := v5.tr (u6.wk (fun x hx => trivial))
  have bk0_6 : bkR B6.2.2.1 0 := by
    have e0 := (u6.1 (4, 0, 0) (by first | (simp [PBk, inBk, PH5, PHi]; done) | (simp [PBk, inBk, PH5, PHi]; intros; omega))).2.2
    have e1 := (u6.1 (7, 0, 0) (by first | (simp [PBk, inBk, PH5, PHi]; done) | (simp [PBk, inBk, PH5, PHi]; intros; omega))).2.2
    have e2 := (u6.1 (20, 0, 0) (by first | (simp [PBk, inBk, PH5, PHi]; done) | (simp [PBk, inBk, PH5, PHi]; intros; omega))).2.2
    unfold bkR
    rw [e0, e1, e2]
    exact bk0_5
  have bi0_6 : bkI B6.1 0 := by
    have e0 := (u6.1 (4, 0, 0) (by first | (simp [PBk, inBk, PH5, PHi]; done) | (simp [PBk, inBk, PH5, PHi]; intros; omega))).1
    have e1 := (u6.1 (7, 0, 0) (by first | (simp [PBk, inBk, PH5, PHi]; done) | (simp [PBk, inBk, PH5, PHi]; intros; omega))).1
    have e2 := (u6.1 (21, 0, 0) (by first | (simp [PBk, inBk, PH5, PHi]; done) | (simp [PBk, inBk, PH5, PHi]; intros; omega))).1
    unfold bkI
    rw [e0, e1, e2]
    exact bi0_5
  have his_6 : hisRf B6.2.2.1 := his_ok hh5 (fun x hx => (u6.1 x (by intro q; have h9 := PHi_c hx; rw [q] at h9; simp at h9)).2.2)
  have hi5_6 : hs5 B6.2.2.1 B6.1 := by
    have e0 := (u6.1 (5, 0, 0) (by first | (simp [PBk, inBk, PH5, PHi]; done) | (simp [PBk, inBk, PH5, PHi]; intros; omega))).2.2
    have e1 := (u6.1 (5, 0, 0) (by first | (simp [PBk, inBk, PH5, PHi]; done) | (simp [PBk, inBk, PH5, PHi]; intros; omega))).1
    unfold hs5
    rw [e0, e1]
    exact ⟨ha5, hb5, hc5⟩
  obtain ⟨A7, hA7⟩ : ∃ A7 : SS, A7 = mk B6 (4, 7, 0) (nq B6) (nmB 7 ++ ((6, 0, 0) :: (netNm ++ ((8, 0, 0) :: (serNm ++ ((9, 0, 0) :: (spaNm ++ ((1, 0, 0) :: ns)))))))) 12 := ⟨_, rfl⟩
  have t7 : nms B6 = (4, 7, 0) :: (nmB 7 ++ ((6, 0, 0) :: (netNm ++ ((8, 0, 0) :: (serNm ++ ((9, 0, 0) :: (spaNm ++ ((1, 0, 0) :: ns)))))))) := by
    have h9 := v6.2.1
    rw [hn] at h9
    simpa using h9.symm
  have x7 : ∀ (c : Nat → List AV → SS → Option Out) (L : List (Option AV)) (L2 : List (Nat × AV)) (St : List AV), ev c 0 27 L L2 (St) (C5.1, C5.2.1, setV C5.2.2.1 (11, 0, 0) 1 (aR (5, 0, 0)), C5.2.2.2) = ev c 0 30 L L2 (aR (4, 7, 0) :: St) A7 := by
    intro c L L2 St
    rw [← hB6]
    rw [hA7]
    exact ev_nw (pc' := 30) i0_27 rfl rfl v6.2.2.1 t7 rfl
  have u7 : mdN (fun x : OId => x = (4, 7, 0)) B6 A7 [(4, 7, 0)] 1 12 := by
    rw [hA7]
    exact md_al v6.2.2.1 t7 rfl
  have v7 : mdN (fun _ : OId => True) S A7 (((([(4, 0, 0)] ++ nmB 0) ++ [(5, 0, 0)]) ++ hiN) ++ [(4, 7, 0)]) 108 910 := v6.tr (u7.wk (fun x hx => trivial))
  have bk0_7 : bkR A7.2.2.1 0 := by
    have e0 := (u7.1 (4, 0, 0) (by first | (simp [PBk, inBk, PH5, PHi]; done) | (simp [PBk, inBk, PH5, PHi]; intros; omega))).2.2
    have e1 := (u7.1 (7, 0, 0) (by first | (simp [PBk, inBk, PH5, PHi]; done) | (simp [PBk, inBk, PH5, PHi]; intros; omega))).2.2
    have e2 := (u7.1 (20, 0, 0) (by first | (simp [PBk, inBk, PH5, PHi]; done) | (simp [PBk, inBk, PH5, PHi]; intros; omega))).2.2
    unfold bkR
    rw [e0, e1, e2]
    exact bk0_6
  have bi0_7 : bkI A7.1 0 := by
    have e0 := (u7.1 (4, 0, 0) (by first | (simp [PBk, inBk, PH5, PHi]; done) | (simp [PBk, inBk, PH5, PHi]; intros; omega))).1
    have e1 := (u7.1 (7, 0, 0) (by first | (simp [PBk, inBk, PH5, PHi]; done) | (simp [PBk, inBk, PH5, PHi]; intros; omega))).1
    have e2 := (u7.1 (21, 0, 0) (by first | (simp [PBk, inBk, PH5, PHi]; done) | (simp [PBk, inBk, PH5, PHi]; intros; omega))).1
    unfold bkI
    rw [e0, e1, e2]
    exact bi0_6
  have his_7 : hisRf A7.2.2.1 := his_ok his_6 (fun x hx => (u7.1 x (by intro q; have h9 := PHi_c hx; rw [q] at h9; simp at h9)).2.2)
  have hi5_7 : hs5 A7.2.2.1 A7.1 := by
    have e0 := (u7.1 (5, 0, 0) (by first | (simp [PBk, inBk, PH5, PHi]; done) | (simp [PBk, inBk, PH5, PHi]; intros; omega))).2.2
    have e1 := (u7.1 (5, 0, 0) (by first | (simp [PBk, inBk, PH5, PHi]; done) | (simp [PBk, inBk, PH5, PHi]; intros; omega))).1
    unfold hs5
    rw [e0, e1]
    exact hi5_6
  have t8 : nms A7 = nmB 7 ++ ((6, 0, 0) :: (netNm ++ ((8, 0, 0) :: (serNm ++ ((9, 0, 0) :: (spaNm ++ ((1, 0, 0) :: ns))))))) := by
    have h9 := v7.2.1
    rw [hn] at h9
    simpa using h9.symm
  obtain ⟨C8, x8, u8, ba8, bi8⟩ := k1 (d := d + 2) (j := 7) v7.2.2.1 t8
  have v8 : mdN (fun _ : OId => True) S C8 ((((([(4, 0, 0)] ++ nmB 0) ++ [(5, 0, 0)]) ++ hiN) ++ [(4, 7, 0)]) ++ nmB 7) 122 1025 := v7.tr (u8.wk (fun x hx => trivial))
  have bk0_8 : bkR C8.2.2.1 0 := by
    have e0 := (u8.1 (4, 0, 0) (by first | (simp [PBk, inBk, PH5, PHi]; done) | (simp [PBk, inBk, PH5, PHi]; intros; omega))).2.2
    have e1 := (u8.1 (7, 0, 0) (by first | (simp [PBk, inBk, PH5, PHi]; done) | (simp [PBk, inBk, PH5, PHi]; intros; omega))).2.2
    have e2 := (u8.1 (20, 0, 0) (by first | (simp [PBk, inBk, PH5, PHi]; done) | (simp [PBk, inBk, PH5, PHi]; intros; omega))).2.2
    unfold bkR
    rw [e0, e1, e2]
    exact bk0_7
  have bi0_8 : bkI C8.1 0 := by
    have e0 := (u8.1 (4, 0, 0) (by first | (simp [PBk, inBk, PH5, PHi]; done) | (simp [PBk, inBk, PH5, PHi]; intros; omega))).1
    have e1 := (u8.1 (7, 0, 0) (by first | (simp [PBk, inBk, PH5, PHi]; done) | (simp [PBk, inBk, PH5, PHi]; intros; omega))).1
    have e2 := (u8.1 (21, 0, 0) (by first | (simp [PBk, inBk, PH5, PHi]; done) | (simp [PBk, inBk, PH5, PHi]; intros; omega))).1
    unfold bkI
    rw [e0, e1, e2]
    exact bi0_7
  have his_8 : hisRf C8.2.2.1 := his_ok his_7 (fun x hx => (u8.1 x (by intro q; have h8 := PBk_c q; have h9 := PHi_c hx; omega)).2.2)
  have hi5_8 : hs5 C8.2.2.1 C8.1 := by
    have e0 := (u8.1 (5, 0, 0) (by first | (simp [PBk, inBk, PH5, PHi]; done) | (simp [PBk, inBk, PH5, PHi]; intros; omega))).2.2
    have e1 := (u8.1 (5, 0, 0) (by first | (simp [PBk, inBk, PH5, PHi]; done) | (simp [PBk, inBk, PH5, PHi]; intros; omega))).1
    unfold hs5
    rw [e0, e1]
    exact hi5_7
  have g8_0 : C8.2.2.1 (11, 0, 0) = A7.2.2.1 (11, 0, 0) := (u8.1 (11, 0, 0) (by first | (simp [PBk, inBk, PH5, PHi]; done) | (simp [PBk, inBk, PH5, PHi]; intros; omega))).2.2
  have g8_1 : C8.1 (11, 0, 0) = A7.1 (11, 0, 0) := (u8.1 (11, 0, 0) (by first | (simp [PBk, inBk, PH5, PHi]; done) | (simp [PBk, inBk, PH5, PHi]; intros; omega))).1
  obtain ⟨B9, hB9⟩ : ∃ B9 : SS, B9 = (setI C8.1 (11, 0, 0) 3 0, C8.2.1, setV C8.2.2.1 (11, 0, 0) 2 (aR (4, 7, 0)), C8.2.2.2) := ⟨_, rfl⟩
  have u9 : mdN (fun x : OId => x = (11, 0, 0)) C8 B9 [] 0 0 := by
    rw [hB9]
    exact ⟨fun x hx => ⟨(setI_o (fun q => hx q)), rfl, (setV_o (fun q => hx q))⟩, rfl, v8.2.2.1, Nat.le_refl _, rfl, rfl, rfl, fun _ q => Or.inl q⟩
  have v9 : mdN (fun _ : OId => True) S B9 ((((([(4, 0, 0)] ++ nmB 0) ++ [(5, 0, 0)]) ++ hiN) ++ [(4, 7, 0)]) ++ nmB 7) 122 1025 := v8.tr (u9.wk (fun x hx => trivial))
  have bk0_9 : bkR B9.2.2.1 0 := by
    have e0 := (u9.1 (4, 0, 0) (by first | (simp [PBk, inBk, PH5, PHi]; done) | (simp [PBk, inBk, PH5, PHi]; intros; omega))).2.2
    have e1 := (u9.1 (7, 0, 0) (by first | (simp [PBk, inBk, PH5, PHi]; done) | (simp [PBk, inBk, PH5, PHi]; intros; omega))).2.2
    have e2 := (u9.1 (20, 0, 0) (by first | (simp [PBk, inBk, PH5, PHi]; done) | (simp [PBk, inBk, PH5, PHi]; intros; omega))).2.2
    unfold bkR
    rw [e0, e1, e2]
    exact bk0_8
  have bi0_9 : bkI B9.1 0 := by
    have e0 := (u9.1 (4, 0, 0) (by first | (simp [PBk, inBk, PH5, PHi]; done) | (simp [PBk, inBk, PH5, PHi]; intros; omega))).1
    have e1 := (u9.1 (7, 0, 0) (by first | (simp [PBk, inBk, PH5, PHi]; done) | (simp [PBk, inBk, PH5, PHi]; intros; omega))).1
    have e2 := (u9.1 (21, 0, 0) (by first | (simp [PBk, inBk, PH5, PHi]; done) | (simp [PBk, inBk, PH5, PHi]; intros; omega))).1
    unfold bkI
    rw [e0, e1, e2]
    exact bi0_8
  have his_9 : hisRf B9.2.2.1 := his_ok his_8 (fun x hx => (u9.1 x (by intro q; have h9 := PHi_c hx; rw [q] at h9; simp at h9)).2.2)
  have hi5_9 : hs5 B9.2.2.1 B9.1 := by
    have e0 := (u9.1 (5, 0, 0) (by first | (simp [PBk, inBk, PH5, PHi]; done) | (simp [PBk, inBk, PH5, PHi]; intros; omega))).2.2
    have e1 := (u9.1 (5, 0, 0) (by first | (simp [PBk, inBk, PH5, PHi]; done) | (simp [PBk, inBk, PH5, PHi]; intros; omega))).1
    unfold hs5
    rw [e0, e1]
    exact hi5_8
  have bk7_9 : bkR B9.2.2.1 7 := by
    have e0 := (u9.1 (4, 7, 0) (by first | (simp [PBk, inBk, PH5, PHi]; done) | (simp [PBk, inBk, PH5, PHi]; intros; omega))).2.2
    have e1 := (u9.1 (7, 7, 0) (by first | (simp [PBk, inBk, PH5, PHi]; done) | (simp [PBk, inBk, PH5, PHi]; intros; omega))).2.2
    have e2 := (u9.1 (20, 7, 0) (by first | (simp [PBk, inBk, PH5, PHi]; done) | (simp [PBk, inBk, PH5, PHi]; intros; omega))).2.2
    unfold bkR
    rw [e0, e1, e2]
    exact ba8
  obtain ⟨A10, hA10⟩ : ∃ A10 : SS, A10 = mk B9 (6, 0, 0) (nq B9) (netNm ++ ((8, 0, 0) :: (serNm ++ ((9, 0, 0) :: (spaNm ++ ((1, 0, 0) :: ns)))))) 5 := ⟨_, rfl⟩
  have t10 : nms B9 = (6, 0, 0) :: (netNm ++ ((8, 0, 0) :: (serNm ++ ((9, 0, 0) :: (spaNm ++ ((1, 0, 0) :: ns)))))) := by
    have h9 := v9.2.1
    rw [hn] at h9
    simpa using h9.symm
  have x10 : ∀ (c : Nat → List AV → SS → Option Out) (L : List (Option AV)) (L2 : List (Nat × AV)) (St : List AV), ev c 0 42 L L2 (St) (setI C8.1 (11, 0, 0) 3 0, C8.2.1, setV C8.2.2.1 (11, 0, 0) 2 (aR (4, 7, 0)), C8.2.2.2) = ev c 0 45 L L2 (aR (6, 0, 0) :: St) A10 := by
    intro c L L2 St
    rw [← hB9]
    rw [hA10]
    exact ev_nw (pc' := 45) i0_42 rfl rfl v9.2.2.1 t10 rfl
  have u10 : mdN (fun x : OId => x = (6, 0, 0)) B9 A10 [(6, 0, 0)] 1 5 := by
    rw [hA10]
    exact md_al v9.2.2.1 t10 rfl
  have v10 : mdN (fun _ : OId => True) S A10 (((((([(4, 0, 0)] ++ nmB 0) ++ [(5, 0, 0)]) ++ hiN) ++ [(4, 7, 0)]) ++ nmB 7) ++ [(6, 0, 0)]) 123 1030 := v9.tr (u10.wk (fun x hx => trivial))
  have bk0_10 : bkR A10.2.2.1 0 := by
    have e0 := (u10.1 (4, 0, 0) (by first | (simp [PBk, inBk, PH5, PHi]; done) | (simp [PBk, inBk, PH5, PHi]; intros; omega))).2.2
    have e1 := (u10.1 (7, 0, 0) (by first | (simp [PBk, inBk, PH5, PHi]; done) | (simp [PBk, inBk, PH5, PHi]; intros; omega))).2.2
    have e2 := (u10.1 (20, 0, 0) (by first | (simp [PBk, inBk, PH5, PHi]; done) | (simp [PBk, inBk, PH5, PHi]; intros; omega))).2.2
    unfold bkR
    rw [e0, e1, e2]
    exact bk0_9
  have bi0_10 : bkI A10.1 0 := by
    have e0 := (u10.1 (4, 0, 0) (by first | (simp [PBk, inBk, PH5, PHi]; done) | (simp [PBk, inBk, PH5, PHi]; intros; omega))).1
    have e1 := (u10.1 (7, 0, 0) (by first | (simp [PBk, inBk, PH5, PHi]; done) | (simp [PBk, inBk, PH5, PHi]; intros; omega))).1
    have e2 := (u10.1 (21, 0, 0) (by first | (simp [PBk, inBk, PH5, PHi]; done) | (simp [PBk, inBk, PH5, PHi]; intros; omega))).1
    unfold bkI
    rw [e0, e1, e2]
    exact bi0_9
  have his_10 : hisRf A10.2.2.1 := his_ok his_9 (fun x hx => (u10.1 x (by intro q; have h9 := PHi_c hx; rw [q] at h9; simp at h9)).2.2)
  have hi5_10 : hs5 A10.2.2.1 A10.1 := by
    have e0 := (u10.1 (5, 0, 0) (by first | (simp [PBk, inBk, PH5, PHi]; done) | (simp [PBk, inBk, PH5, PHi]; intros; omega))).2.2
    have e1 := (u10.1 (5, 0, 0) (by first | (simp [PBk, inBk, PH5, PHi]; done) | (simp [PBk, inBk, PH5, PHi]; intros; omega))).1
    unfold hs5
    rw [e0, e1]
    exact hi5_9
  have bk7_10 : bkR A10.2.2.1 7 := by
    have e0 := (u10.1 (4, 7, 0) (by first | (simp [PBk, inBk, PH5, PHi]; done) | (simp [PBk, inBk, PH5, PHi]; intros; omega))).2.2
    have e1 := (u10.1 (7, 7, 0) (by first | (simp [PBk, inBk, PH5, PHi]; done) | (simp [PBk, inBk, PH5, PHi]; intros; omega))).2.2
    have e2 := (u10.1 (20, 7, 0) (by first | (simp [PBk, inBk, PH5, PHi]; done) | (simp [PBk, inBk, PH5, PHi]; intros; omega))).2.2
    unfold bkR
    rw [e0, e1, e2]
    exact bk7_9
  have t11 : nms A10 = netNm ++ ((8, 0, 0) :: (serNm ++ ((9, 0, 0) :: (spaNm ++ ((1, 0, 0) :: ns))))) := by
    have h9 := v10.2.1
    rw [hn] at h9
    simpa using h9.symm
  obtain ⟨C11, x11, u11, na11⟩ := cn5' (d := d + 3) v10.2.2.1 t11
  have v11 : mdN (fun _ : OId => True) S C11 ((((((([(4, 0, 0)] ++ nmB 0) ++ [(5, 0, 0)]) ++ hiN) ++ [(4, 7, 0)]) ++ nmB 7) ++ [(6, 0, 0)]) ++ netNm) 127 1100 := v10.tr (u11.wk (fun x hx => trivial))
  have bk0_11 : bkR C11.2.2.1 0 := by
    have e0 := (u11.1 (4, 0, 0) (by first | (simp [PBk, inBk, PH5, PHi]; done) | (simp [PBk, inBk, PH5, PHi]; intros; omega))).2.2
    have e1 := (u11.1 (7, 0, 0) (by first | (simp [PBk, inBk, PH5, PHi]; done) | (simp [PBk, inBk, PH5, PHi]; intros; omega))).2.2
    have e2 := (u11.1 (20, 0, 0) (by first | (simp [PBk, inBk, PH5, PHi]; done) | (simp [PBk, inBk, PH5, PHi]; intros; omega))).2.2
    unfold bkR
    rw [e0, e1, e2]
    exact bk0_10
  have bi0_11 : bkI C11.1 0 := by
    have e0 := (u11.1 (4, 0, 0) (by first | (simp [PBk, inBk, PH5, PHi]; done) | (simp [PBk, inBk, PH5, PHi]; intros; omega))).1
    have e1 := (u11.1 (7, 0, 0) (by first | (simp [PBk, inBk, PH5, PHi]; done) | (simp [PBk, inBk, PH5, PHi]; intros; omega))).1
    have e2 := (u11.1 (21, 0, 0) (by first | (simp [PBk, inBk, PH5, PHi]; done) | (simp [PBk, inBk, PH5, PHi]; intros; omega))).1
    unfold bkI
    rw [e0, e1, e2]
    exact bi0_10
  have his_11 : hisRf C11.2.2.1 := his_ok his_10 (fun x hx => (u11.1 x (by intro q; have h9 := PHi_c hx; rcases q with q | q | q | q | q <;> rw [q] at h9 <;> simp at h9)).2.2)
  have hi5_11 : hs5 C11.2.2.1 C11.1 := by
    have e0 := (u11.1 (5, 0, 0) (by first | (simp [PBk, inBk, PH5, PHi]; done) | (simp [PBk, inBk, PH5, PHi]; intros; omega))).2.2
    have e1 := (u11.1 (5, 0, 0) (by first | (simp [PBk, inBk, PH5, PHi]; done) | (simp [PBk, inBk, PH5, PHi]; intros; omega))).1
    unfold hs5
    rw [e0, e1]
    exact hi5_10
  have bk7_11 : bkR C11.2.2.1 7 := by
    have e0 := (u11.1 (4, 7, 0) (by first | (simp [PBk, inBk, PH5, PHi]; done) | (simp [PBk, inBk, PH5, PHi]; intros; omega))).2.2
    have e1 := (u11.1 (7, 7, 0) (by first | (simp [PBk, inBk, PH5, PHi]; done) | (simp [PBk, inBk, PH5, PHi]; intros; omega))).2.2
    have e2 := (u11.1 (20, 7, 0) (by first | (simp [PBk, inBk, PH5, PHi]; done) | (simp [PBk, inBk, PH5, PHi]; intros; omega))).2.2
    unfold bkR
    rw [e0, e1, e2]
    exact bk7_10
  have g11_0 : C11.2.2.1 (11, 0, 0) = A10.2.2.1 (11, 0, 0) := (u11.1 (11, 0, 0) (by first | (simp [PBk, inBk, PH5, PHi]; done) | (simp [PBk, inBk, PH5, PHi]; intros; omega))).2.2
  have g11_1 : C11.1 (11, 0, 0) = A10.1 (11, 0, 0) := (u11.1 (11, 0, 0) (by first | (simp [PBk, inBk, PH5, PHi]; done) | (simp [PBk, inBk, PH5, PHi]; intros; omega))).1
  obtain ⟨A12, hA12⟩ : ∃ A12 : SS, A12 = mk C11 (8, 0, 0) (nq C11) (serNm ++ ((9, 0, 0) :: (spaNm ++ ((1, 0, 0) :: ns)))) 7 := ⟨_, rfl⟩
  have t12 : nms C11 = (8, 0, 0) :: (serNm ++ ((9, 0, 0) :: (spaNm ++ ((1, 0, 0) :: ns)))) := by
    have h9 := v11.2.1
    rw [hn] at h9
    simpa using h9.symm
  have x12 : ∀ (c : Nat → List AV → SS → Option Out) (L : List (Option AV)) (L2 : List (Nat × AV)) (St : List AV), ev c 0 51 L L2 (St) C11 = ev c 0 54 L L2 (aR (8, 0, 0) :: St) A12 := by
    intro c L L2 St
    rw [hA12]
    exact ev_nw (pc' := 54) i0_51 rfl rfl v11.2.2.1 t12 rfl
  have u12 : mdN (fun x : OId => x = (8, 0, 0)) C11 A12 [(8, 0, 0)] 1 7 := by
    rw [hA12]
    exact md_al v11.2.2.1 t12 rfl
  have v12 : mdN (fun _ : OId => True) S A12 (((((((([(4, 0, 0)] ++ nmB 0) ++ [(5, 0, 0)]) ++ hiN) ++ [(4, 7, 0)]) ++ nmB 7) ++ [(6, 0, 0)]) ++ netNm) ++ [(8, 0, 0)]) 128 1107 := v11.tr (u12.wk (fun x hx => trivial))
  have bk0_12 : bkR A12.2.2.1 0 := by
    have e0 := (u12.1 (4, 0, 0) (by first | (simp [PBk, inBk, PH5, PHi]; done) | (simp [PBk, inBk, PH5, PHi]; intros; omega))).2.2
    have e1 := (u12.1 (7, 0, 0) (by first | (simp [PBk, inBk, PH5, PHi]; done) | (simp [PBk, inBk, PH5, PHi]; intros; omega))).2.2
    have e2 := (u12.1 (20, 0, 0) (by first | (simp [PBk, inBk, PH5, PHi]; done) | (simp [PBk, inBk, PH5, PHi]; intros; omega))).2.2
    unfold bkR
    rw [e0, e1, e2]
    exact bk0_11
  have bi0_12 : bkI A12.1 0 := by
    have e0 := (u12.1 (4, 0, 0) (by first | (simp [PBk, inBk, PH5, PHi]; done) | (simp [PBk, inBk, PH5, PHi]; intros; omega))).1
    have e1 := (u12.1 (7, 0, 0) (by first | (simp [PBk, inBk, PH5, PHi]; done) | (simp [PBk, inBk, PH5, PHi]; intros; omega))).1
    have e2 := (u12.1 (21, 0, 0) (by first | (simp [PBk, inBk, PH5, PHi]; done) | (simp [PBk, inBk, PH5, PHi]; intros; omega))).1
    unfold bkI
    rw [e0, e1, e2]
    exact bi0_11
  have his_12 : hisRf A12.2.2.1 := his_ok his_11 (fun x hx => (u12.1 x (by intro q; have h9 := PHi_c hx; rw [q] at h9; simp at h9)).2.2)
  have hi5_12 : hs5 A12.2.2.1 A12.1 := by
    have e0 := (u12.1 (5, 0, 0) (by first | (simp [PBk, inBk, PH5, PHi]; done) | (simp [PBk, inBk, PH5, PHi]; intros; omega))).2.2
    have e1 := (u12.1 (5, 0, 0) (by first | (simp [PBk, inBk, PH5, PHi]; done) | (simp [PBk, inBk, PH5, PHi]; intros; omega))).1
    unfold hs5
    rw [e0, e1]
    exact hi5_11
  have bk7_12 : bkR A12.2.2.1 7 := by
    have e0 := (u12.1 (4, 7, 0) (by first | (simp [PBk, inBk, PH5, PHi]; done) | (simp [PBk, inBk, PH5, PHi]; intros; omega))).2.2
    have e1 := (u12.1 (7, 7, 0) (by first | (simp [PBk, inBk, PH5, PHi]; done) | (simp [PBk, inBk, PH5, PHi]; intros; omega))).2.2
    have e2 := (u12.1 (20, 7, 0) (by first | (simp [PBk, inBk, PH5, PHi]; done) | (simp [PBk, inBk, PH5, PHi]; intros; omega))).2.2
    unfold bkR
    rw [e0, e1, e2]
    exact bk7_11
  have net_12 : netRf A12.2.2.1 := by
    have e0 := (u12.1 (6, 0, 0) (by first | (simp [PBk, inBk, PH5, PHi]; done) | (simp [PBk, inBk, PH5, PHi]; intros; omega))).2.2
    unfold netRf
    rw [e0]
    exact na11
  have t13 : nms A12 = serNm ++ ((9, 0, 0) :: (spaNm ++ ((1, 0, 0) :: ns))) := by
    have h9 := v12.2.1
    rw [hn] at h9
    simpa using h9.symm
  obtain ⟨C13, x13, u13, sa13⟩ := cn6' (d := d + 2) v12.2.2.1 t13
  have v13 : mdN (fun _ : OId => True) S C13 ((((((((([(4, 0, 0)] ++ nmB 0) ++ [(5, 0, 0)]) ++ hiN) ++ [(4, 7, 0)]) ++ nmB 7) ++ [(6, 0, 0)]) ++ netNm) ++ [(8, 0, 0)]) ++ serNm) 135 3583 := v12.tr (u13.wk (fun x hx => trivial))
  have bk0_13 : bkR C13.2.2.1 0 := by
    have e0 := (u13.1 (4, 0, 0) (by first | (simp [PBk, inBk, PH5, PHi]; done) | (simp [PBk, inBk, PH5, PHi]; intros; omega))).2.2
    have e1 := (u13.1 (7, 0, 0) (by first | (simp [PBk, inBk, PH5, PHi]; done) | (simp [PBk, inBk, PH5, PHi]; intros; omega))).2.2
    have e2 := (u13.1 (20, 0, 0) (by first | (simp [PBk, inBk, PH5, PHi]; done) | (simp [PBk, inBk, PH5, PHi]; intros; omega))).2.2
    unfold bkR
    rw [e0, e1, e2]
    exact bk0_12
  have bi0_13 : bkI C13.1 0 := by
    have e0 := (u13.1 (4, 0, 0) (by first | (simp [PBk, inBk, PH5, PHi]; done) | (simp [PBk, inBk, PH5, PHi]; intros; omega))).1
    have e1 := (u13.1 (7, 0, 0) (by first | (simp [PBk, inBk, PH5, PHi]; done) | (simp [PBk, inBk, PH5, PHi]; intros; omega))).1
    have e2 := (u13.1 (21, 0, 0) (by first | (simp [PBk, inBk, PH5, PHi]; done) | (simp [PBk, inBk, PH5, PHi]; intros; omega))).1
    unfold bkI
    rw [e0, e1, e2]
    exact bi0_12
  have his_13 : hisRf C13.2.2.1 := his_ok his_12 (fun x hx => (u13.1 x (by intro q; have h9 := PHi_c hx; rcases q with q | q | q | q | q | q | q | q <;> rw [q] at h9 <;> simp at h9)).2.2)
  have hi5_13 : hs5 C13.2.2.1 C13.1 := by
    have e0 := (u13.1 (5, 0, 0) (by first | (simp [PBk, inBk, PH5, PHi]; done) | (simp [PBk, inBk, PH5, PHi]; intros; omega))).2.2
    have e1 := (u13.1 (5, 0, 0) (by first | (simp [PBk, inBk, PH5, PHi]; done) | (simp [PBk, inBk, PH5, PHi]; intros; omega))).1
    unfold hs5
    rw [e0, e1]
    exact hi5_12
  have bk7_13 : bkR C13.2.2.1 7 := by
    have e0 := (u13.1 (4, 7, 0) (by first | (simp [PBk, inBk, PH5, PHi]; done) | (simp [PBk, inBk, PH5, PHi]; intros; omega))).2.2
    have e1 := (u13.1 (7, 7, 0) (by first | (simp [PBk, inBk, PH5, PHi]; done) | (simp [PBk, inBk, PH5, PHi]; intros; omega))).2.2
    have e2 := (u13.1 (20, 7, 0) (by first | (simp [PBk, inBk, PH5, PHi]; done) | (simp [PBk, inBk, PH5, PHi]; intros; omega))).2.2
    unfold bkR
    rw [e0, e1, e2]
    exact bk7_12
  have net_13 : netRf C13.2.2.1 := by
    have e0 := (u13.1 (6, 0, 0) (by first | (simp [PBk, inBk, PH5, PHi]; done) | (simp [PBk, inBk, PH5, PHi]; intros; omega))).2.2
    unfold netRf
    rw [e0]
    exact net_12
  have g13_0 : C13.2.2.1 (11, 0, 0) = A12.2.2.1 (11, 0, 0) := (u13.1 (11, 0, 0) (by first | (simp [PBk, inBk, PH5, PHi]; done) | (simp [PBk, inBk, PH5, PHi]; intros; omega))).2.2
  have g13_1 : C13.1 (11, 0, 0) = A12.1 (11, 0, 0) := (u13.1 (11, 0, 0) (by first | (simp [PBk, inBk, PH5, PHi]; done) | (simp [PBk, inBk, PH5, PHi]; intros; omega))).1
  obtain ⟨B14, hB14⟩ : ∃ B14 : SS, B14 = (C13.1, C13.2.1, setV C13.2.2.1 (11, 0, 0) 4 (aR (8, 0, 0)), C13.2.2.2) := ⟨_, rfl⟩
  have u14 : mdN (fun x : OId => x = (11, 0, 0)) C13 B14 [] 0 0 := by
    rw [hB14]
    exact ⟨fun x hx => ⟨rfl, rfl, (setV_o (fun q => hx q))⟩, rfl, v13.2.2.1, Nat.le_refl _, rfl, rfl, rfl, fun _ q => Or.inl q⟩
  have v14 : mdN (fun _ : OId => True) S B14 ((((((((([(4, 0, 0)] ++ nmB 0) ++ [(5, 0, 0)]) ++ hiN) ++ [(4, 7, 0)]) ++ nmB 7) ++ [(6, 0, 0)]) ++ netNm) ++ [(8, 0, 0)]) ++ serNm) 135 3583 := v13.tr (u14.wk (fun x hx => trivial))
  have bk0_14 : bkR B14.2.2.1 0 := by
    have e0 := (u14.1 (4, 0, 0) (by first | (simp [PBk, inBk, PH5, PHi]; done) | (simp [PBk, inBk, PH5, PHi]; intros; omega))).2.2
    have e1 := (u14.1 (7, 0, 0) (by first | (simp [PBk, inBk, PH5, PHi]; done) | (simp [PBk, inBk, PH5, PHi]; intros; omega))).2.2
    have e2 := (u14.1 (20, 0, 0) (by first | (simp [PBk, inBk, PH5, PHi]; done) | (simp [PBk, inBk, PH5, PHi]; intros; omega))).2.2
    unfold bkR
    rw [e0, e1, e2]
    exact bk0_13
  have bi0_14 : bkI B14.1 0 := by
    have e0 := (u14.1 (4, 0, 0) (by first | (simp [PBk, inBk, PH5, PHi]; done) | (simp [PBk, inBk, PH5, PHi]; intros; omega))).1
    have e1 := (u14.1 (7, 0, 0) (by first | (simp [PBk, inBk, PH5, PHi]; done) | (simp [PBk, inBk, PH5, PHi]; intros; omega))).1
    have e2 := (u14.1 (21, 0, 0) (by first | (simp [PBk, inBk, PH5, PHi]; done) | (simp [PBk, inBk, PH5, PHi]; intros; omega))).1
    unfold bkI
    rw [e0, e1, e2]
    exact bi0_13
  have his_14 : hisRf B14.2.2.1 := his_ok his_13 (fun x hx => (u14.1 x (by intro q; have h9 := PHi_c hx; rw [q] at h9; simp at h9)).2.2)
  have hi5_14 : hs5 B14.2.2.1 B14.1 := by
    have e0 := (u14.1 (5, 0, 0) (by first | (simp [PBk, inBk, PH5, PHi]; done) | (simp [PBk, inBk, PH5, PHi]; intros; omega))).2.2
    have e1 := (u14.1 (5, 0, 0) (by first | (simp [PBk, inBk, PH5, PHi]; done) | (simp [PBk, inBk, PH5, PHi]; intros; omega))).1
    unfold hs5
    rw [e0, e1]
    exact hi5_13
  have bk7_14 : bkR B14.2.2.1 7 := by
    have e0 := (u14.1 (4, 7, 0) (by first | (simp [PBk, inBk, PH5, PHi]; done) | (simp [PBk, inBk, PH5, PHi]; intros; omega))).2.2
    have e1 := (u14.1 (7, 7, 0) (by first | (simp [PBk, inBk, PH5, PHi]; done) | (simp [PBk, inBk, PH5, PHi]; intros; omega))).2.2
    have e2 := (u14.1 (20, 7, 0) (by first | (simp [PBk, inBk, PH5, PHi]; done) | (simp [PBk, inBk, PH5, PHi]; intros; omega))).2.2
    unfold bkR
    rw [e0, e1, e2]
    exact bk7_13
  have net_14 : netRf B14.2.2.1 := by
    have e0 := (u14.1 (6, 0, 0) (by first | (simp [PBk, inBk, PH5, PHi]; done) | (simp [PBk, inBk, PH5, PHi]; intros; omega))).2.2
    unfold netRf
    rw [e0]
    exact net_13
  have ser_14 : serRf B14.2.2.1 := by
    have e0 := (u14.1 (8, 0, 0) (by first | (simp [PBk, inBk, PH5, PHi]; done) | (simp [PBk, inBk, PH5, PHi]; intros; omega))).2.2
    have e1 := (u14.1 (7, 8, 0) (by first | (simp [PBk, inBk, PH5, PHi]; done) | (simp [PBk, inBk, PH5, PHi]; intros; omega))).2.2
    unfold serRf
    rw [e0, e1]
    exact sa13
  obtain ⟨A15, hA15⟩ : ∃ A15 : SS, A15 = mk B14 (9, 0, 0) (nq B14) (spaNm ++ ((1, 0, 0) :: ns)) 3 := ⟨_, rfl⟩
  have t15 : nms B14 = (9, 0, 0) :: (spaNm ++ ((1, 0, 0) :: ns)) := by
    have h9 := v14.2.1
    rw [hn] at h9
    simpa using h9.symm
  have x15 : ∀ (c : Nat → List AV → SS → Option Out) (L : List (Option AV)) (L2 : List (Nat × AV)) (St : List AV), ev c 0 63 L L2 (St) (C13.1, C13.2.1, setV C13.2.2.1 (11, 0, 0) 4 (aR (8, 0, 0)), C13.2.2.2) = ev c 0 66 L L2 (aR (9, 0, 0) :: St) A15 := by
    intro c L L2 St
    rw [← hB14]
    rw [hA15]
    exact ev_nw (pc' := 66) i0_63 rfl rfl v14.2.2.1 t15 rfl
  have u15 : mdN (fun x : OId => x = (9, 0, 0)) B14 A15 [(9, 0, 0)] 1 3 := by
    rw [hA15]
    exact md_al v14.2.2.1 t15 rfl
  have v15 : mdN (fun _ : OId => True) S A15 (((((((((([(4, 0, 0)] ++ nmB 0) ++ [(5, 0, 0)]) ++ hiN) ++ [(4, 7, 0)]) ++ nmB 7) ++ [(6, 0, 0)]) ++ netNm) ++ [(8, 0, 0)]) ++ serNm) ++ [(9, 0, 0)]) 136 3586 := v14.tr (u15.wk (fun x hx => trivial))
  have bk0_15 : bkR A15.2.2.1 0 := by
    have e0 := (u15.1 (4, 0, 0) (by first | (simp [PBk, inBk, PH5, PHi]; done) | (simp [PBk, inBk, PH5, PHi]; intros; omega))).2.2
    have e1 := (u15.1 (7, 0, 0) (by first | (simp [PBk, inBk, PH5, PHi]; done) | (simp [PBk, inBk, PH5, PHi]; intros; omega))).2.2
    have e2 := (u15.1 (20, 0, 0) (by first | (simp [PBk, inBk, PH5, PHi]; done) | (simp [PBk, inBk, PH5, PHi]; intros; omega))).2.2
    unfold bkR
    rw [e0, e1, e2]
    exact bk0_14
  have bi0_15 : bkI A15.1 0 := by
    have e0 := (u15.1 (4, 0, 0) (by first | (simp [PBk, inBk, PH5, PHi]; done) | (simp [PBk, inBk, PH5, PHi]; intros; omega))).1
    have e1 := (u15.1 (7, 0, 0) (by first | (simp [PBk, inBk, PH5, PHi]; done) | (simp [PBk, inBk, PH5, PHi]; intros; omega))).1
    have e2 := (u15.1 (21, 0, 0) (by first | (simp [PBk, inBk, PH5, PHi]; done) | (simp [PBk, inBk, PH5, PHi]; intros; omega))).1
    unfold bkI
    rw [e0, e1, e2]
    exact bi0_14
  have his_15 : hisRf A15.2.2.1 := his_ok his_14 (fun x hx => (u15.1 x (by intro q; have h9 := PHi_c hx; rw [q] at h9; simp at h9)).2.2)
  have hi5_15 : hs5 A15.2.2.1 A15.1 := by
    have e0 := (u15.1 (5, 0, 0) (by first | (simp [PBk, inBk, PH5, PHi]; done) | (simp [PBk, inBk, PH5, PHi]; intros; omega))).2.2
    have e1 := (u15.1 (5, 0, 0) (by first | (simp [PBk, inBk, PH5, PHi]; done) | (simp [PBk, inBk, PH5, PHi]; intros; omega))).1
    unfold hs5
    rw [e0, e1]
    exact hi5_14
  have bk7_15 : bkR A15.2.2.1 7 := by
    have e0 := (u15.1 (4, 7, 0) (by first | (simp [PBk, inBk, PH5, PHi]; done) | (simp [PBk, inBk, PH5, PHi]; intros; omega))).2.2
    have e1 := (u15.1 (7, 7, 0) (by first | (simp [PBk, inBk, PH5, PHi]; done) | (simp [PBk, inBk, PH5, PHi]; intros; omega))).2.2
    have e2 := (u15.1 (20, 7, 0) (by first | (simp [PBk, inBk, PH5, PHi]; done) | (simp [PBk, inBk, PH5, PHi]; intros; omega))).2.2
    unfold bkR
    rw [e0, e1, e2]
    exact bk7_14
  have net_15 : netRf A15.2.2.1 := by
    have e0 := (u15.1 (6, 0, 0) (by first | (simp [PBk, inBk, PH5, PHi]; done) | (simp [PBk, inBk, PH5, PHi]; intros; omega))).2.2
    unfold netRf
    rw [e0]
    exact net_14
  have ser_15 : serRf A15.2.2.1 := by
    have e0 := (u15.1 (8, 0, 0) (by first | (simp [PBk, inBk, PH5, PHi]; done) | (simp [PBk, inBk, PH5, PHi]; intros; omega))).2.2
    have e1 := (u15.1 (7, 8, 0) (by first | (simp [PBk, inBk, PH5, PHi]; done) | (simp [PBk, inBk, PH5, PHi]; intros; omega))).2.2
    unfold serRf
    rw [e0, e1]
    exact ser_14
  have t16 : nms A15 = spaNm ++ ((1, 0, 0) :: ns) := by
    have h9 := v15.2.1
    rw [hn] at h9
    simpa using h9.symm
  obtain ⟨C16, x16, u16, sp16⟩ := cn7' (d := d + 3) v15.2.2.1 t16
  have v16 : mdN (fun _ : OId => True) S C16 ((((((((((([(4, 0, 0)] ++ nmB 0) ++ [(5, 0, 0)]) ++ hiN) ++ [(4, 7, 0)]) ++ nmB 7) ++ [(6, 0, 0)]) ++ netNm) ++ [(8, 0, 0)]) ++ serNm) ++ [(9, 0, 0)]) ++ spaNm) 138 3642 := v15.tr (u16.wk (fun x hx => trivial))
  have bk0_16 : bkR C16.2.2.1 0 := by
    have e0 := (u16.1 (4, 0, 0) (by first | (simp [PBk, inBk, PH5, PHi]; done) | (simp [PBk, inBk, PH5, PHi]; intros; omega))).2.2
    have e1 := (u16.1 (7, 0, 0) (by first | (simp [PBk, inBk, PH5, PHi]; done) | (simp [PBk, inBk, PH5, PHi]; intros; omega))).2.2
    have e2 := (u16.1 (20, 0, 0) (by first | (simp [PBk, inBk, PH5, PHi]; done) | (simp [PBk, inBk, PH5, PHi]; intros; omega))).2.2
    unfold bkR
    rw [e0, e1, e2]
    exact bk0_15
  have bi0_16 : bkI C16.1 0 := by
    have e0 := (u16.1 (4, 0, 0) (by first | (simp [PBk, inBk, PH5, PHi]; done) | (simp [PBk, inBk, PH5, PHi]; intros; omega))).1
    have e1 := (u16.1 (7, 0, 0) (by first | (simp [PBk, inBk, PH5, PHi]; done) | (simp [PBk, inBk, PH5, PHi]; intros; omega))).1
    have e2 := (u16.1 (21, 0, 0) (by first | (simp [PBk, inBk, PH5, PHi]; done) | (simp [PBk, inBk, PH5, PHi]; intros; omega))).1
    unfold bkI
    rw [e0, e1, e2]
    exact bi0_15
  have his_16 : hisRf C16.2.2.1 := his_ok his_15 (fun x hx => (u16.1 x (by intro q; have h9 := PHi_c hx; rcases q with q | q | q <;> rw [q] at h9 <;> simp at h9)).2.2)
  have hi5_16 : hs5 C16.2.2.1 C16.1 := by
    have e0 := (u16.1 (5, 0, 0) (by first | (simp [PBk, inBk, PH5, PHi]; done) | (simp [PBk, inBk, PH5, PHi]; intros; omega))).2.2
    have e1 := (u16.1 (5, 0, 0) (by first | (simp [PBk, inBk, PH5, PHi]; done) | (simp [PBk, inBk, PH5, PHi]; intros; omega))).1
    unfold hs5
    rw [e0, e1]
    exact hi5_15
  have bk7_16 : bkR C16.2.2.1 7 := by
    have e0 := (u16.1 (4, 7, 0) (by first | (simp [PBk, inBk, PH5, PHi]; done) | (simp [PBk, inBk, PH5, PHi]; intros; omega))).2.2
    have e1 := (u16.1 (7, 7, 0) (by first | (simp [PBk, inBk, PH5, PHi]; done) | (simp [PBk, inBk, PH5, PHi]; intros; omega))).2.2
    have e2 := (u16.1 (20, 7, 0) (by first | (simp [PBk, inBk, PH5, PHi]; done) | (simp [PBk, inBk, PH5, PHi]; intros; omega))).2.2
    unfold bkR
    rw [e0, e1, e2]
    exact bk7_15
  have net_16 : netRf C16.2.2.1 := by
    have e0 := (u16.1 (6, 0, 0) (by first | (simp [PBk, inBk, PH5, PHi]; done) | (simp [PBk, inBk, PH5, PHi]; intros; omega))).2.2
    unfold netRf
    rw [e0]
    exact net_15
  have ser_16 : serRf C16.2.2.1 := by
    have e0 := (u16.1 (8, 0, 0) (by first | (simp [PBk, inBk, PH5, PHi]; done) | (simp [PBk, inBk, PH5, PHi]; intros; omega))).2.2
    have e1 := (u16.1 (7, 8, 0) (by first | (simp [PBk, inBk, PH5, PHi]; done) | (simp [PBk, inBk, PH5, PHi]; intros; omega))).2.2
    unfold serRf
    rw [e0, e1]
    exact ser_15
  have g16_0 : C16.2.2.1 (11, 0, 0) = A15.2.2.1 (11, 0, 0) := (u16.1 (11, 0, 0) (by first | (simp [PBk, inBk, PH5, PHi]; done) | (simp [PBk, inBk, PH5, PHi]; intros; omega))).2.2
  have g16_1 : C16.1 (11, 0, 0) = A15.1 (11, 0, 0) := (u16.1 (11, 0, 0) (by first | (simp [PBk, inBk, PH5, PHi]; done) | (simp [PBk, inBk, PH5, PHi]; intros; omega))).1
  obtain ⟨B17, hB17⟩ : ∃ B17 : SS, B17 = (C16.1, C16.2.1, setV C16.2.2.1 (11, 0, 0) 5 (aR (9, 0, 0)), C16.2.2.2) := ⟨_, rfl⟩
  have u17 : mdN (fun x : OId => x = (11, 0, 0)) C16 B17 [] 0 0 := by
    rw [hB17]
    exact ⟨fun x hx => ⟨rfl, rfl, (setV_o (fun q => hx q))⟩, rfl, v16.2.2.1, Nat.le_refl _, rfl, rfl, rfl, fun _ q => Or.inl q⟩
  have v17 : mdN (fun _ : OId => True) S B17 ((((((((((([(4, 0, 0)] ++ nmB 0) ++ [(5, 0, 0)]) ++ hiN) ++ [(4, 7, 0)]) ++ nmB 7) ++ [(6, 0, 0)]) ++ netNm) ++ [(8, 0, 0)]) ++ serNm) ++ [(9, 0, 0)]) ++ spaNm) 138 3642 := v16.tr (u17.wk (fun x hx => trivial))
  have bk0_17 : bkR B17.2.2.1 0 := by
    have e0 := (u17.1 (4, 0, 0) (by first | (simp [PBk, inBk, PH5, PHi]; done) | (simp [PBk, inBk, PH5, PHi]; intros; omega))).2.2
    have e1 := (u17.1 (7, 0, 0) (by first | (simp [PBk, inBk, PH5, PHi]; done) | (simp [PBk, inBk, PH5, PHi]; intros; omega))).2.2
    have e2 := (u17.1 (20, 0, 0) (by first | (simp [PBk, inBk, PH5, PHi]; done) | (simp [PBk, inBk, PH5, PHi]; intros; omega))).2.2
    unfold bkR
    rw [e0, e1, e2]
    exact bk0_16
  have bi0_17 : bkI B17.1 0 := by
    have e0 := (u17.1 (4, 0, 0) (by first | (simp [PBk, inBk, PH5, PHi]; done) | (simp [PBk, inBk, PH5, PHi]; intros; omega))).1
    have e1 := (u17.1 (7, 0, 0) (by first | (simp [PBk, inBk, PH5, PHi]; done) | (simp [PBk, inBk, PH5, PHi]; intros; omega))).1
    have e2 := (u17.1 (21, 0, 0) (by first | (simp [PBk, inBk, PH5, PHi]; done) | (simp [PBk, inBk, PH5, PHi]; intros; omega))).1
    unfold bkI
    rw [e0, e1, e2]
    exact bi0_16
  have his_17 : hisRf B17.2.2.1 := his_ok his_16 (fun x hx => (u17.1 x (by intro q; have h9 := PHi_c hx; rw [q] at h9; simp at h9)).2.2)
  have hi5_17 : hs5 B17.2.2.1 B17.1 := by
    have e0 := (u17.1 (5, 0, 0) (by first | (simp [PBk, inBk, PH5, PHi]; done) | (simp [PBk, inBk, PH5, PHi]; intros; omega))).2.2
    have e1 := (u17.1 (5, 0, 0) (by first | (simp [PBk, inBk, PH5, PHi]; done) | (simp [PBk, inBk, PH5, PHi]; intros; omega))).1
    unfold hs5
    rw [e0, e1]
    exact hi5_16
  have bk7_17 : bkR B17.2.2.1 7 := by
    have e0 := (u17.1 (4, 7, 0) (by first | (simp [PBk, inBk, PH5, PHi]; done) | (simp [PBk, inBk, PH5, PHi]; intros; omega))).2.2
    have e1 := (u17.1 (7, 7, 0) (by first | (simp [PBk, inBk, PH5, PHi]; done) | (simp [PBk, inBk, PH5, PHi]; intros; omega))).2.2
    have e2 := (u17.1 (20, 7, 0) (by first | (simp [PBk, inBk, PH5, PHi]; done) | (simp [PBk, inBk, PH5, PHi]; intros; omega))).2.2
    unfold bkR
    rw [e0, e1, e2]
    exact bk7_16
  have net_17 : netRf B17.2.2.1 := by
    have e0 := (u17.1 (6, 0, 0) (by first | (simp [PBk, inBk, PH5, PHi]; done) | (simp [PBk, inBk, PH5, PHi]; intros; omega))).2.2
    unfold netRf
    rw [e0]
    exact net_16
  have ser_17 : serRf B17.2.2.1 := by
    have e0 := (u17.1 (8, 0, 0) (by first | (simp [PBk, inBk, PH5, PHi]; done) | (simp [PBk, inBk, PH5, PHi]; intros; omega))).2.2
    have e1 := (u17.1 (7, 8, 0) (by first | (simp [PBk, inBk, PH5, PHi]; done) | (simp [PBk, inBk, PH5, PHi]; intros; omega))).2.2
    unfold serRf
    rw [e0, e1]
    exact ser_16
  have spa_17 : spaRf B17.2.2.1 B17.2.1 := by
    have e0 := (u17.1 (9, 0, 0) (by first | (simp [PBk, inBk, PH5, PHi]; done) | (simp [PBk, inBk, PH5, PHi]; intros; omega))).2.2
    have e1 := (u17.1 (34, 0, 0) (by first | (simp [PBk, inBk, PH5, PHi]; done) | (simp [PBk, inBk, PH5, PHi]; intros; omega))).2.1
    unfold spaRf
    rw [e0, e1]
    exact sp16
  obtain ⟨A18, hA18⟩ : ∃ A18 : SS, A18 = mk B17 (1, 0, 0) (nq B17) (ns) 4 := ⟨_, rfl⟩
  have t18 : nms B17 = (1, 0, 0) :: ns := by
    have h9 := v17.2.1
    rw [hn] at h9
    simpa using h9.symm
  have x18 : ∀ (c : Nat → List AV → SS → Option Out) (L : List (Option AV)) (L2 : List (Nat × AV)) (St : List AV), ev c 0 75 L L2 (St) (C16.1, C16.2.1, setV C16.2.2.1 (11, 0, 0) 5 (aR (9, 0, 0)), C16.2.2.2) = ev c 0 78 L L2 (aR (1, 0, 0) :: St) A18 := by
    intro c L L2 St
    rw [← hB17]
    rw [hA18]
    exact ev_nw (pc' := 78) i0_75 rfl rfl v17.2.2.1 t18 rfl
  have u18 : mdN (fun x : OId => x = (1, 0, 0)) B17 A18 [(1, 0, 0)] 1 4 := by
    rw [hA18]
    exact md_al v17.2.2.1 t18 rfl
  have v18 : mdN (fun _ : OId => True) S A18 (((((((((((([(4, 0, 0)] ++ nmB 0) ++ [(5, 0, 0)]) ++ hiN) ++ [(4, 7, 0)]) ++ nmB 7) ++ [(6, 0, 0)]) ++ netNm) ++ [(8, 0, 0)]) ++ serNm) ++ [(9, 0, 0)]) ++ spaNm) ++ [(1, 0, 0)]) 139 3646 := v17.tr (u18.wk (fun x hx => trivial))
  have bk0_18 : bkR A18.2.2.1 0 := by
    have e0 := (u18.1 (4, 0, 0) (by first | (simp [PBk, inBk, PH5, PHi]; done) | (simp [PBk, inBk, PH5, PHi]; intros; omega))).2.2
    have e1 := (u18.1 (7, 0, 0) (by first | (simp [PBk, inBk, PH5, PHi]; done) | (simp [PBk, inBk, PH5, PHi]; intros; omega))).2.2
    have e2 := (u18.1 (20, 0, 0) (by first | (simp [PBk, inBk, PH5, PHi]; done) | (simp [PBk, inBk, PH5, PHi]; intros; omega))).2.2
    unfold bkR
    rw [e0, e1, e2]
    exact bk0_17
  have bi0_18 : bkI A18.1 0 := by
    have e0 := (u18.1 (4, 0, 0) (by first | (simp [PBk, inBk, PH5, PHi]; done) | (simp [PBk, inBk, PH5, PHi]; intros; omega))).1
    have e1 := (u18.1 (7, 0, 0) (by first | (simp [PBk, inBk, PH5, PHi]; done) | (simp [PBk, inBk, PH5, PHi]; intros; omega))).1
    have e2 := (u18.1 (21, 0, 0) (by first | (simp [PBk, inBk, PH5, PHi]; done) | (simp [PBk, inBk, PH5, PHi]; intros; omega))).1
    unfold bkI
    rw [e0, e1, e2]
    exact bi0_17
  have his_18 : hisRf A18.2.2.1 := his_ok his_17 (fun x hx => (u18.1 x (by intro q; have h9 := PHi_c hx; rw [q] at h9; simp at h9)).2.2)
  have hi5_18 : hs5 A18.2.2.1 A18.1 := by
    have e0 := (u18.1 (5, 0, 0) (by first | (simp [PBk, inBk, PH5, PHi]; done) | (simp [PBk, inBk, PH5, PHi]; intros; omega))).2.2
    have e1 := (u18.1 (5, 0, 0) (by first | (simp [PBk, inBk, PH5, PHi]; done) | (simp [PBk, inBk, PH5, PHi]; intros; omega))).1
    unfold hs5
    rw [e0, e1]
    exact hi5_17
  have bk7_18 : bkR A18.2.2.1 7 := by
    have e0 := (u18.1 (4, 7, 0) (by first | (simp [PBk, inBk, PH5, PHi]; done) | (simp [PBk, inBk, PH5, PHi]; intros; omega))).2.2
    have e1 := (u18.1 (7, 7, 0) (by first | (simp [PBk, inBk, PH5, PHi]; done) | (simp [PBk, inBk, PH5, PHi]; intros; omega))).2.2
    have e2 := (u18.1 (20, 7, 0) (by first | (simp [PBk, inBk, PH5, PHi]; done) | (simp [PBk, inBk, PH5, PHi]; intros; omega))).2.2
    unfold bkR
    rw [e0, e1, e2]
    exact bk7_17
  have net_18 : netRf A18.2.2.1 := by
    have e0 := (u18.1 (6, 0, 0) (by first | (simp [PBk, inBk, PH5, PHi]; done) | (simp [PBk, inBk, PH5, PHi]; intros; omega))).2.2
    unfold netRf
    rw [e0]
    exact net_17
  have ser_18 : serRf A18.2.2.1 := by
    have e0 := (u18.1 (8, 0, 0) (by first | (simp [PBk, inBk, PH5, PHi]; done) | (simp [PBk, inBk, PH5, PHi]; intros; omega))).2.2
    have e1 := (u18.1 (7, 8, 0) (by first | (simp [PBk, inBk, PH5, PHi]; done) | (simp [PBk, inBk, PH5, PHi]; intros; omega))).2.2
    unfold serRf
    rw [e0, e1]
    exact ser_17
  have spa_18 : spaRf A18.2.2.1 A18.2.1 := by
    have e0 := (u18.1 (9, 0, 0) (by first | (simp [PBk, inBk, PH5, PHi]; done) | (simp [PBk, inBk, PH5, PHi]; intros; omega))).2.2
    have e1 := (u18.1 (34, 0, 0) (by first | (simp [PBk, inBk, PH5, PHi]; done) | (simp [PBk, inBk, PH5, PHi]; intros; omega))).2.1
    unfold spaRf
    rw [e0, e1]
    exact spa_17
  refine ⟨A18, ?_, v18, bk0_18, bi0_18, his_18, hi5_18, bk7_18, net_18, ser_18, spa_18, ?_, ?_, ?_, ?_, ?_, ?_, ?_⟩
  · simp only [m0, s0_0, s0_1, s0_4, s0_8, s0_9, s0_12, s0_15, s0_19, s0_20, s0_23, s0_26, s0_30, s0_31, s0_34, s0_37, s0_38, s0_39, s0_45, s0_46, s0_49, s0_50, s0_54, s0_55, s0_56, s0_59, s0_62, s0_66, s0_67, s0_68, s0_71, s0_74, s0_78, x1, x2, x4, x5, x7, x8, x10, x11, x12, x13, x15, x16, x18, true_or, if_false, if_true, ck_v, ck_x, Option.toList, List.cons_append, List.nil_append, kil_nil, N_1, o10, o00, exN_0, exN_1, exN_2, exN_3, exN_4, exN_5, Ex]
  · skip
    (try simp only [hA18, hB17, g16_1, g16_0, hA15, hB14, g13_1, g13_0, hA12, g11_1, g11_0, hA10, hB9, g8_1, g8_0, hA7, hB6, g5_1, g5_0, hA4, hB3, g2_1, g2_0, hA1]) <;> (try simp [mk, setRow, setRowV, setI, setV, hA18, hB17, g16_1, g16_0, hA15, hB14, g13_1, g13_0, hA12, g11_1, g11_0, hA10, hB9, g8_1, g8_0, hA7, hB6, g5_1, g5_0, hA4, hB3, g2_1, g2_0, hA1])
  · skip
    (try simp only [hA18, hB17, g16_1, g16_0, hA15, hB14, g13_1, g13_0, hA12, g11_1, g11_0, hA10, hB9, g8_1, g8_0, hA7, hB6, g5_1, g5_0, hA4, hB3, g2_1, g2_0, hA1]) <;> (try simp [mk, setRow, setRowV, setI, setV, hA18, hB17, g16_1, g16_0, hA15, hB14, g13_1, g13_0, hA12, g11_1, g11_0, hA10, hB9, g8_1, g8_0, hA7, hB6, g5_1, g5_0, hA4, hB3, g2_1, g2_0, hA1])
  · skip
    (try simp only [hA18, hB17, g16_1, g16_0, hA15, hB14, g13_1, g13_0, hA12, g11_1, g11_0, hA10, hB9, g8_1, g8_0, hA7, hB6, g5_1, g5_0, hA4, hB3, g2_1, g2_0, hA1]) <;> (try simp [mk, setRow, setRowV, setI, setV, hA18, hB17, g16_1, g16_0, hA15, hB14, g13_1, g13_0, hA12, g11_1, g11_0, hA10, hB9, g8_1, g8_0, hA7, hB6, g5_1, g5_0, hA4, hB3, g2_1, g2_0, hA1])
  · skip
    (try simp only [hA18, hB17, g16_1, g16_0, hA15, hB14, g13_1, g13_0, hA12, g11_1, g11_0, hA10, hB9, g8_1, g8_0, hA7, hB6, g5_1, g5_0, hA4, hB3, g2_1, g2_0, hA1]) <;> (try simp [mk, setRow, setRowV, setI, setV, hA18, hB17, g16_1, g16_0, hA15, hB14, g13_1, g13_0, hA12, g11_1, g11_0, hA10, hB9, g8_1, g8_0, hA7, hB6, g5_1, g5_0, hA4, hB3, g2_1, g2_0, hA1])
  · skip
    (try simp only [hA18, hB17, g16_1, g16_0, hA15, hB14, g13_1, g13_0, hA12, g11_1, g11_0, hA10, hB9, g8_1, g8_0, hA7, hB6, g5_1, g5_0, hA4, hB3, g2_1, g2_0, hA1]) <;> (try simp [mk, setRow, setRowV, setI, setV, hA18, hB17, g16_1, g16_0, hA15, hB14, g13_1, g13_0, hA12, g11_1, g11_0, hA10, hB9, g8_1, g8_0, hA7, hB6, g5_1, g5_0, hA4, hB3, g2_1, g2_0, hA1])
  · skip
    (try simp only [hA18, hB17, g16_1, g16_0, hA15, hB14, g13_1, g13_0, hA12, g11_1, g11_0, hA10, hB9, g8_1, g8_0, hA7, hB6, g5_1, g5_0, hA4, hB3, g2_1, g2_0, hA1]) <;> (try simp [mk, setRow, setRowV, setI, setV, hA18, hB17, g16_1, g16_0, hA15, hB14, g13_1, g13_0, hA12, g11_1, g11_0, hA10, hB9, g8_1, g8_0, hA7, hB6, g5_1, g5_0, hA4, hB3, g2_1, g2_0, hA1])
  · skip
    (try simp only [hA18, hB17, g16_1, g16_0, hA15, hB14, g13_1, g13_0, hA12, g11_1, g11_0, hA10, hB9, g8_1, g8_0, hA7, hB6, g5_1, g5_0, hA4, hB3, g2_1, g2_0, hA1]) <;> (try simp [mk, setRow, setRowV, setI, setV, hA18, hB17, g16_1, g16_0, hA15, hB14, g13_1, g13_0, hA12, g11_1, g11_0, hA10, hB9, g8_1, g8_0, hA7, hB6, g5_1, g5_0, hA4, hB3, g2_1, g2_0, hA1])

theorem k214h {d : Nat} {S : SS} {ns : List OId}  (hW : namW S) (hn : nms S = (35, 0, 0) :: (36, 0, 0) :: (37, 0, 0) :: (38, 0, 0) :: (39, 0, 0) :: (40, 0, 0) :: (41, 0, 0) :: ns)  : ∃ S', evm (d + 8) 214 [aR (12, 0, 0)] S = ev (evm (d + 7)) 214 105 [some (aR (12, 0, 0))] [] [aR (12, 0, 0)] S' ∧ mdN (fun x : OId => x = (12, 0, 0) ∨ 35 ≤ x.1 ∧ x.1 ≤ 41) S S' [(35, 0, 0), (36, 0, 0), (37, 0, 0), (38, 0, 0), (39, 0, 0), (40, 0, 0), (41, 0, 0)] 7 965 ∧ S'.2.2.1 (12, 0, 0) 0 = aR (35, 0, 0) ∧ S'.2.2.1 (12, 0, 0) 1 = aR (36, 0, 0) ∧ S'.2.2.1 (12, 0, 0) 2 = aR (37, 0, 0) ∧ S'.2.2.1 (12, 0, 0) 3 = aR (38, 0, 0) ∧ S'.2.2.1 (12, 0, 0) 4 = aR (39, 0, 0) ∧ S'.2.2.1 (12, 0, 0) 5 = aR (40, 0, 0) ∧ S'.2.2.1 (12, 0, 0) 6 = aR (41, 0, 0) ∧ S'.1 (12, 0, 0) 8 = 0 ∧ S'.1 (12, 0, 0) 15 = 0 ∧ (∀ f, S'.1 (35, 0, 0) f = 0) := by
  have p0 : (fun x : OId => x = (12, 0, 0) ∨ 35 ≤ x.1 ∧ x.1 ≤ 41) (35, 0, 0) := by simp
  have p1 : (fun x : OId => x = (12, 0, 0) ∨ 35 ≤ x.1 ∧ x.1 ≤ 41) (12, 0, 0) := by simp
  have p2 : (fun x : OId => x = (12, 0, 0) ∨ 35 ≤ x.1 ∧ x.1 ≤ 41) (36, 0, 0) := by simp
  have p3 : (fun x : OId => x = (12, 0, 0) ∨ 35 ≤ x.1 ∧ x.1 ≤ 41) (37, 0, 0) := by simp
  have p4 : (fun x : OId => x = (12, 0, 0) ∨ 35 ≤ x.1 ∧ x.1 ≤ 41) (38, 0, 0) := by simp
  have p5 : (fun x : OId => x = (12, 0, 0) ∨ 35 ≤ x.1 ∧ x.1 ≤ 41) (39, 0, 0) := by simp
  have p6 : (fun x : OId => x = (12, 0, 0) ∨ 35 ≤ x.1 ∧ x.1 ≤ 41) (40, 0, 0) := by simp
  have p7 : (fun x : OId => x = (12, 0, 0) ∨ 35 ≤ x.1 ∧ x.1 ≤ 41) (41, 0, 0) := by simp
  have w0 : mdN (fun x : OId => x = (12, 0, 0) ∨ 35 ≤ x.1 ∧ x.1 ≤ 41) S S [] 0 0 := mdN.rf hW
  obtain ⟨A1, hA1⟩ : ∃ A1 : SS, A1 = mk S (35, 0, 0) (nq S) ((36, 0, 0) :: (37, 0, 0) :: (38, 0, 0) :: (39, 0, 0) :: (40, 0, 0) :: (41, 0, 0) :: ns) 106 := ⟨_, rfl⟩
  have t1 : nms S = (35, 0, 0) :: (36, 0, 0) :: (37, 0, 0) :: (38, 0, 0) :: (39, 0, 0) :: (40, 0, 0) :: (41, 0, 0) :: ns := hn
  have x1 : ∀ (c : Nat → List AV → SS → Option Out) (L : List (Option AV)) (L2 : List (Nat × AV)) (St : List AV), ev c 214 7 L L2 (aI 106 :: St) S = ev c 214 9 L L2 (aR (35, 0, 0) :: St) A1 := by
    intro c L L2 St
    rw [hA1]
    exact ev_nar (m := 106) (pc' := 9) i214_7 rfl (by decide) (by decide) w0.2.2.1 t1 rfl
  have u1 : mdN (fun x : OId => x = (35, 0, 0)) S A1 [(35, 0, 0)] 1 106 := by
    rw [hA1]
    exact md_al w0.2.2.1 t1 rfl
  have v1 : mdN (fun x : OId => x = (12, 0, 0) ∨ 35 ≤ x.1 ∧ x.1 ≤ 41) S A1 [(35, 0, 0)] 1 106 := w0.tr (u1.wk (fun x hx => by rw [hx]; exact p0))
  obtain ⟨B2, hB2⟩ : ∃ B2 : SS, B2 = (A1.1, A1.2.1, setV A1.2.2.1 (12, 0, 0) 0 (aR (35, 0, 0)), A1.2.2.2) := ⟨_, rfl⟩
  have u2 : mdN (fun x : OId => x = (12, 0, 0)) A1 B2 [] 0 0 := by
    rw [hB2]
    exact ⟨fun x hx => ⟨rfl, rfl, (setV_o (fun q => hx q))⟩, rfl, v1.2.2.1, Nat.le_refl _, rfl, rfl, rfl, fun _ q => Or.inl q⟩
  have v2 : mdN (fun x : OId => x = (12, 0, 0) ∨ 35 ≤ x.1 ∧ x.1 ≤ 41) S B2 [(35, 0, 0)] 1 106 := v1.tr (u2.wk (fun x hx => by rcases hx with rfl; exact p1))
  obtain ⟨A3, hA3⟩ : ∃ A3 : SS, A3 = mk B2 (36, 0, 0) (nq B2) ((37, 0, 0) :: (38, 0, 0) :: (39, 0, 0) :: (40, 0, 0) :: (41, 0, 0) :: ns) 106 := ⟨_, rfl⟩
  have t3 : nms B2 = (36, 0, 0) :: (37, 0, 0) :: (38, 0, 0) :: (39, 0, 0) :: (40, 0, 0) :: (41, 0, 0) :: ns := by
    have h9 := v2.2.1
    rw [hn] at h9
    simpa using h9.symm
  have x3 : ∀ (c : Nat → List AV → SS → Option Out) (L : List (Option AV)) (L2 : List (Nat × AV)) (St : List AV), ev c 214 15 L L2 (aI 106 :: St) (A1.1, A1.2.1, setV A1.2.2.1 (12, 0, 0) 0 (aR (35, 0, 0)), A1.2.2.2) = ev c 214 17 L L2 (aR (36, 0, 0) :: St) A3 := by
    intro c L L2 St
    rw [← hB2]
    rw [hA3]
    exact ev_nar (m := 106) (pc' := 17) i214_15 rfl (by decide) (by decide) v2.2.2.1 t3 rfl
  have u3 : mdN (fun x : OId => x = (36, 0, 0)) B2 A3 [(36, 0, 0)] 1 106 := by
    rw [hA3]
    exact md_al v2.2.2.1 t3 rfl
  have v3 : mdN (fun x : OId => x = (12, 0, 0) ∨ 35 ≤ x.1 ∧ x.1 ≤ 41) S A3 [(35, 0, 0), (36, 0, 0)] 2 212 := v2.tr (u3.wk (fun x hx => by rw [hx]; exact p2))
  obtain ⟨B4, hB4⟩ : ∃ B4 : SS, B4 = (A3.1, A3.2.1, setV A3.2.2.1 (12, 0, 0) 1 (aR (36, 0, 0)), A3.2.2.2) := ⟨_, rfl⟩
  have u4 : mdN (fun x : OId => x = (12, 0, 0)) A3 B4 [] 0 0 := by
    rw [hB4]
    exact ⟨fun x hx => ⟨rfl, rfl, (setV_o (fun q => hx q))⟩, rfl, v3.2.2.1, Nat.le_refl _, rfl, rfl, rfl, fun _ q => Or.inl q⟩
  have v4 : mdN (fun x : OId => x = (12, 0, 0) ∨ 35 ≤ x.1 ∧ x.1 ≤ 41) S B4 [(35, 0, 0), (36, 0, 0)] 2 212 := v3.tr (u4.wk (fun x hx => by rcases hx with rfl; exact p1))
  obtain ⟨A5, hA5⟩ : ∃ A5 : SS, A5 = mk B4 (37, 0, 0) (nq B4) ((38, 0, 0) :: (39, 0, 0) :: (40, 0, 0) :: (41, 0, 0) :: ns) 636 := ⟨_, rfl⟩
  have t5 : nms B4 = (37, 0, 0) :: (38, 0, 0) :: (39, 0, 0) :: (40, 0, 0) :: (41, 0, 0) :: ns := by
    have h9 := v4.2.1
    rw [hn] at h9
    simpa using h9.symm
  have x5 : ∀ (c : Nat → List AV → SS → Option Out) (L : List (Option AV)) (L2 : List (Nat × AV)) (St : List AV), ev c 214 24 L L2 (aI 636 :: St) (A3.1, A3.2.1, setV A3.2.2.1 (12, 0, 0) 1 (aR (36, 0, 0)), A3.2.2.2) = ev c 214 26 L L2 (aR (37, 0, 0) :: St) A5 := by
    intro c L L2 St
    rw [← hB4]
    rw [hA5]
    exact ev_nar (m := 636) (pc' := 26) i214_24 rfl (by decide) (by decide) v4.2.2.1 t5 rfl
  have u5 : mdN (fun x : OId => x = (37, 0, 0)) B4 A5 [(37, 0, 0)] 1 636 := by
    rw [hA5]
    exact md_al v4.2.2.1 t5 rfl
  have v5 : mdN (fun x : OId => x = (12, 0, 0) ∨ 35 ≤ x.1 ∧ x.1 ≤ 41) S A5 [(35, 0, 0), (36, 0, 0), (37, 0, 0)] 3 848 := v4.tr (u5.wk (fun x hx => by rw [hx]; exact p3))
  obtain ⟨B6, hB6⟩ : ∃ B6 : SS, B6 = (A5.1, A5.2.1, setV A5.2.2.1 (12, 0, 0) 2 (aR (37, 0, 0)), A5.2.2.2) := ⟨_, rfl⟩
  have u6 : mdN (fun x : OId => x = (12, 0, 0)) A5 B6 [] 0 0 := by
    rw [hB6]
    exact ⟨fun x hx => ⟨rfl, rfl, (setV_o (fun q => hx q))⟩, rfl, v5.2.2.1, Nat.le_refl _, rfl, rfl, rfl, fun _ q => Or.inl q⟩
  have v6 : mdN (fun x : OId => x = (12, 0, 0) ∨ 35 ≤ x.1 ∧ x.1 ≤ 41) S B6 [(35, 0, 0), (36, 0, 0), (37, 0, 0)] 3 848 := v5.tr (u6.wk (fun x hx => by rcases hx with rfl; exact p1))
  obtain ⟨A7, hA7⟩ : ∃ A7 : SS, A7 = mk B6 (38, 0, 0) (nq B6) ((39, 0, 0) :: (40, 0, 0) :: (41, 0, 0) :: ns) 106 := ⟨_, rfl⟩
  have t7 : nms B6 = (38, 0, 0) :: (39, 0, 0) :: (40, 0, 0) :: (41, 0, 0) :: ns := by
    have h9 := v6.2.1
    rw [hn] at h9
    simpa using h9.symm
  have x7 : ∀ (c : Nat → List AV → SS → Option Out) (L : List (Option AV)) (L2 : List (Nat × AV)) (St : List AV), ev c 214 32 L L2 (aI 106 :: St) (A5.1, A5.2.1, setV A5.2.2.1 (12, 0, 0) 2 (aR (37, 0, 0)), A5.2.2.2) = ev c 214 34 L L2 (aR (38, 0, 0) :: St) A7 := by
    intro c L L2 St
    rw [← hB6]
    rw [hA7]
    exact ev_nar (m := 106) (pc' := 34) i214_32 rfl (by decide) (by decide) v6.2.2.1 t7 rfl
  have u7 : mdN (fun x : OId => x = (38, 0, 0)) B6 A7 [(38, 0, 0)] 1 106 := by
    rw [hA7]
    exact md_al v6.2.2.1 t7 rfl
  have v7 : mdN (fun x : OId => x = (12, 0, 0) ∨ 35 ≤ x.1 ∧ x.1 ≤ 41) S A7 [(35, 0, 0), (36, 0, 0), (37, 0, 0), (38, 0, 0)] 4 954 := v6.tr (u7.wk (fun x hx => by rw [hx]; exact p4))
  obtain ⟨B8, hB8⟩ : ∃ B8 : SS, B8 = (A7.1, A7.2.1, setV A7.2.2.1 (12, 0, 0) 3 (aR (38, 0, 0)), A7.2.2.2) := ⟨_, rfl⟩
  have u8 : mdN (fun x : OId => x = (12, 0, 0)) A7 B8 [] 0 0 := by
    rw [hB8]
    exact ⟨fun x hx => ⟨rfl, rfl, (setV_o (fun q => hx q))⟩, rfl, v7.2.2.1, Nat.le_refl _, rfl, rfl, rfl, fun _ q => Or.inl q⟩
  have v8 : mdN (fun x : OId => x = (12, 0, 0) ∨ 35 ≤ x.1 ∧ x.1 ≤ 41) S B8 [(35, 0, 0), (36, 0, 0), (37, 0, 0), (38, 0, 0)] 4 954 := v7.tr (u8.wk (fun x hx => by rcases hx with rfl; exact p1))
  obtain ⟨A9, hA9⟩ : ∃ A9 : SS, A9 = mk B8 (39, 0, 0) (nq B8) ((40, 0, 0) :: (41, 0, 0) :: ns) 2 := ⟨_, rfl⟩
  have t9 : nms B8 = (39, 0, 0) :: (40, 0, 0) :: (41, 0, 0) :: ns := by
    have h9 := v8.2.1
    rw [hn] at h9
    simpa using h9.symm
  have x9 : ∀ (c : Nat → List AV → SS → Option Out) (L : List (Option AV)) (L2 : List (Nat × AV)) (St : List AV), ev c 214 39 L L2 (aI 2 :: St) (A7.1, A7.2.1, setV A7.2.2.1 (12, 0, 0) 3 (aR (38, 0, 0)), A7.2.2.2) = ev c 214 41 L L2 (aR (39, 0, 0) :: St) A9 := by
    intro c L L2 St
    rw [← hB8]
    rw [hA9]
    exact ev_nar (m := 2) (pc' := 41) i214_39 rfl (by decide) (by decide) v8.2.2.1 t9 rfl
  have u9 : mdN (fun x : OId => x = (39, 0, 0)) B8 A9 [(39, 0, 0)] 1 2 := by
    rw [hA9]
    exact md_al v8.2.2.1 t9 rfl
  have v9 : mdN (fun x : OId => x = (12, 0, 0) ∨ 35 ≤ x.1 ∧ x.1 ≤ 41) S A9 [(35, 0, 0), (36, 0, 0), (37, 0, 0), (38, 0, 0), (39, 0, 0)] 5 956 := v8.tr (u9.wk (fun x hx => by rw [hx]; exact p5))
  obtain ⟨B10, hB10⟩ : ∃ B10 : SS, B10 = (A9.1, A9.2.1, setV A9.2.2.1 (12, 0, 0) 4 (aR (39, 0, 0)), A9.2.2.2) := ⟨_, rfl⟩
  have u10 : mdN (fun x : OId => x = (12, 0, 0)) A9 B10 [] 0 0 := by
    rw [hB10]
    exact ⟨fun x hx => ⟨rfl, rfl, (setV_o (fun q => hx q))⟩, rfl, v9.2.2.1, Nat.le_refl _, rfl, rfl, rfl, fun _ q => Or.inl q⟩
  have v10 : mdN (fun x : OId => x = (12, 0, 0) ∨ 35 ≤ x.1 ∧ x.1 ≤ 41) S B10 [(35, 0, 0), (36, 0, 0), (37, 0, 0), (38, 0, 0), (39, 0, 0)] 5 956 := v9.tr (u10.wk (fun x hx => by rcases hx with rfl; exact p1))
  obtain ⟨A11, hA11⟩ : ∃ A11 : SS, A11 = mk B10 (40, 0, 0) (nq B10) ((41, 0, 0) :: ns) 2 := ⟨_, rfl⟩
  have t11 : nms B10 = (40, 0, 0) :: (41, 0, 0) :: ns := by
    have h9 := v10.2.1
    rw [hn] at h9
    simpa using h9.symm
  have x11 : ∀ (c : Nat → List AV → SS → Option Out) (L : List (Option AV)) (L2 : List (Nat × AV)) (St : List AV), ev c 214 46 L L2 (aI 2 :: St) (A9.1, A9.2.1, setV A9.2.2.1 (12, 0, 0) 4 (aR (39, 0, 0)), A9.2.2.2) = ev c 214 48 L L2 (aR (40, 0, 0) :: St) A11 := by
    intro c L L2 St
    rw [← hB10]
    rw [hA11]
    exact ev_nar (m := 2) (pc' := 48) i214_46 rfl (by decide) (by decide) v10.2.2.1 t11 rfl
  have u11 : mdN (fun x : OId => x = (40, 0, 0)) B10 A11 [(40, 0, 0)] 1 2 := by
    rw [hA11]
    exact md_al v10.2.2.1 t11 rfl
  have v11 : mdN (fun x : OId => x = (12, 0, 0) ∨ 35 ≤ x.1 ∧ x.1 ≤ 41) S A11 [(35, 0, 0), (36, 0, 0), (37, 0, 0), (38, 0, 0), (39, 0, 0), (40, 0, 0)] 6 958 := v10.tr (u11.wk (fun x hx => by rw [hx]; exact p6))
  obtain ⟨B12, hB12⟩ : ∃ B12 : SS, B12 = (A11.1, A11.2.1, setV A11.2.2.1 (12, 0, 0) 5 (aR (40, 0, 0)), A11.2.2.2) := ⟨_, rfl⟩
  have u12 : mdN (fun x : OId => x = (12, 0, 0)) A11 B12 [] 0 0 := by
    rw [hB12]
    exact ⟨fun x hx => ⟨rfl, rfl, (setV_o (fun q => hx q))⟩, rfl, v11.2.2.1, Nat.le_refl _, rfl, rfl, rfl, fun _ q => Or.inl q⟩
  have v12 : mdN (fun x : OId => x = (12, 0, 0) ∨ 35 ≤ x.1 ∧ x.1 ≤ 41) S B12 [(35, 0, 0), (36, 0, 0), (37, 0, 0), (38, 0, 0), (39, 0, 0), (40, 0, 0)] 6 958 := v11.tr (u12.wk (fun x hx => by rcases hx with rfl; exact p1))
  obtain ⟨A13, hA13⟩ : ∃ A13 : SS, A13 = mk B12 (41, 0, 0) (nq B12) (ns) 7 := ⟨_, rfl⟩
  have t13 : nms B12 = (41, 0, 0) :: ns := by
    have h9 := v12.2.1
    rw [hn] at h9
    simpa using h9.symm
  have x13 : ∀ (c : Nat → List AV → SS → Option Out) (L : List (Option AV)) (L2 : List (Nat × AV)) (St : List AV), ev c 214 54 L L2 (aI 7 :: St) (A11.1, A11.2.1, setV A11.2.2.1 (12, 0, 0) 5 (aR (40, 0, 0)), A11.2.2.2) = ev c 214 56 L L2 (aR (41, 0, 0) :: St) A13 := by
    intro c L L2 St
    rw [← hB12]
    rw [hA13]
    exact ev_nar (m := 7) (pc' := 56) i214_54 rfl (by decide) (by decide) v12.2.2.1 t13 rfl
  have u13 : mdN (fun x : OId => x = (41, 0, 0)) B12 A13 [(41, 0, 0)] 1 7 := by
    rw [hA13]
    exact md_al v12.2.2.1 t13 rfl
  have v13 : mdN (fun x : OId => x = (12, 0, 0) ∨ 35 ≤ x.1 ∧ x.1 ≤ 41) S A13 [(35, 0, 0), (36, 0, 0), (37, 0, 0), (38, 0, 0), (39, 0, 0), (40, 0, 0), (41, 0, 0)] 7 965 := v12.tr (u13.wk (fun x hx => by rw [hx]; exact p7))
  obtain ⟨B14, hB14⟩ : ∃ B14 : SS, B14 = (setI (setI (setI (setI (setI (setI (setI (setI (setI A13.1 (12, 0, 0) 7 0) (12, 0, 0) 8 0) (12, 0, 0) 9 0) (12, 0, 0) 10 0) (12, 0, 0) 11 0) (12, 0, 0) 12 0) (12, 0, 0) 13 0) (12, 0, 0) 14 0) (12, 0, 0) 15 0, A13.2.1, setV A13.2.2.1 (12, 0, 0) 6 (aR (41, 0, 0)), A13.2.2.2) := ⟨_, rfl⟩
  have u14 : mdN (fun x : OId => x = (12, 0, 0)) A13 B14 [] 0 0 := by
    rw [hB14]
    exact ⟨fun x hx => ⟨((setI_o (fun q => hx q)).trans ((setI_o (fun q => hx q)).trans ((setI_o (fun q => hx q)).trans ((setI_o (fun q => hx q)).trans ((setI_o (fun q => hx q)).trans ((setI_o (fun q => hx q)).trans ((setI_o (fun q => hx q)).trans ((setI_o (fun q => hx q)).trans (setI_o (fun q => hx q)))))))))), rfl, (setV_o (fun q => hx q))⟩, rfl, v13.2.2.1, Nat.le_refl _, rfl, rfl, rfl, fun _ q => Or.inl q⟩
  have v14 : mdN (fun x : OId => x = (12, 0, 0) ∨ 35 ≤ x.1 ∧ x.1 ≤ 41) S B14 [(35, 0, 0), (36, 0, 0), (37, 0, 0), (38, 0, 0), (39, 0, 0), (40, 0, 0), (41, 0, 0)] 7 965 := v13.tr (u14.wk (fun x hx => by rcases hx with rfl; exact p1))
  refine ⟨B14, ?_, v14, ?_, ?_, ?_, ?_, ?_, ?_, ?_, ?_, ?_, ?_⟩
  · simp only [m214, s214_0, s214_1, s214_4, s214_5, s214_9, s214_12, s214_13, s214_17, s214_20, s214_21, s214_26, s214_29, s214_30, s214_34, s214_37, s214_38, s214_41, s214_44, s214_45, s214_48, s214_51, s214_52, s214_56, s214_59, s214_60, s214_61, s214_64, s214_65, s214_66, s214_69, s214_70, s214_71, s214_74, s214_75, s214_76, s214_79, s214_80, s214_81, s214_84, s214_85, s214_86, s214_89, s214_90, s214_91, s214_94, s214_95, s214_96, s214_99, s214_100, s214_101, s214_104, x1, x3, x5, x7, x9, x11, x13, true_or, if_false, if_true, ck_v, ck_x, Option.toList, List.cons_append, List.nil_append, kil_nil, N_1, o10, o00, exN_0, exN_1, exN_2, exN_3, exN_4, exN_5, Ex]
    rw [hB14]
  · skip
    (try simp only [hB14, hA13, hB12, hA11, hB10, hA9, hB8, hA7, hB6, hA5, hB4, hA3, hB2, hA1]) <;> (try simp [mk, setRow, setRowV, setI, setV, hB14, hA13, hB12, hA11, hB10, hA9, hB8, hA7, hB6, hA5, hB4, hA3, hB2, hA1])
  · skip
    (try simp only [hB14, hA13, hB12, hA11, hB10, hA9, hB8, hA7, hB6, hA5, hB4, hA3, hB2, hA1]) <;> (try simp [mk, setRow, setRowV, setI, setV, hB14, hA13, hB12, hA11, hB10, hA9, hB8, hA7, hB6, hA5, hB4, hA3, hB2, hA1])
  · skip
    (try simp only [hB14, hA13, hB12, hA11, hB10, hA9, hB8, hA7, hB6, hA5, hB4, hA3, hB2, hA1]) <;> (try simp [mk, setRow, setRowV, setI, setV, hB14, hA13, hB12, hA11, hB10, hA9, hB8, hA7, hB6, hA5, hB4, hA3, hB2, hA1])
  · skip
    (try simp only [hB14, hA13, hB12, hA11, hB10, hA9, hB8, hA7, hB6, hA5, hB4, hA3, hB2, hA1]) <;> (try simp [mk, setRow, setRowV, setI, setV, hB14, hA13, hB12, hA11, hB10, hA9, hB8, hA7, hB6, hA5, hB4, hA3, hB2, hA1])
  · skip
    (try simp only [hB14, hA13, hB12, hA11, hB10, hA9, hB8, hA7, hB6, hA5, hB4, hA3, hB2, hA1]) <;> (try simp [mk, setRow, setRowV, setI, setV, hB14, hA13, hB12, hA11, hB10, hA9, hB8, hA7, hB6, hA5, hB4, hA3, hB2, hA1])
  · skip
    (try simp only [hB14, hA13, hB12, hA11, hB10, hA9, hB8, hA7, hB6, hA5, hB4, hA3, hB2, hA1]) <;> (try simp [mk, setRow, setRowV, setI, setV, hB14, hA13, hB12, hA11, hB10, hA9, hB8, hA7, hB6, hA5, hB4, hA3, hB2, hA1])
  · skip
    (try simp only [hB14, hA13, hB12, hA11, hB10, hA9, hB8, hA7, hB6, hA5, hB4, hA3, hB2, hA1]) <;> (try simp [mk, setRow, setRowV, setI, setV, hB14, hA13, hB12, hA11, hB10, hA9, hB8, hA7, hB6, hA5, hB4, hA3, hB2, hA1])
  · skip
    (try simp only [hB14, hA13, hB12, hA11, hB10, hA9, hB8, hA7, hB6, hA5, hB4, hA3, hB2, hA1]) <;> (try simp [mk, setRow, setRowV, setI, setV, hB14, hA13, hB12, hA11, hB10, hA9, hB8, hA7, hB6, hA5, hB4, hA3, hB2, hA1])
  · skip
    (try simp only [hB14, hA13, hB12, hA11, hB10, hA9, hB8, hA7, hB6, hA5, hB4, hA3, hB2, hA1]) <;> (try simp [mk, setRow, setRowV, setI, setV, hB14, hA13, hB12, hA11, hB10, hA9, hB8, hA7, hB6, hA5, hB4, hA3, hB2, hA1])
  · intro f
    (try simp only [hB14, hA13, hB12, hA11, hB10, hA9, hB8, hA7, hB6, hA5, hB4, hA3, hB2, hA1]) <;> (try simp [mk, setRow, setRowV, setI, setV, hB14, hA13, hB12, hA11, hB10, hA9, hB8, hA7, hB6, hA5, hB4, hA3, hB2, hA1])

