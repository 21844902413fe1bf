/-! THE METHODS' MEANING: the constructors (genK.py) -/
theorem k3 {d : Nat} {S : SS} {ns : List OId} {j : Nat} (hW : namW S) (hn : nms S = (22, j, 0) :: (23, j, 0) :: (24, j, 0) :: ns)  : ∃ S', evm (d + 2) 3 [aR (7, j, 0)] S = some (.inl none, S') ∧ mdN (fun x : OId => x = (7, j, 0) ∨ x = (22, j, 0) ∨ x = (23, j, 0) ∨ x = (24, j, 0)) S S' [(22, j, 0), (23, j, 0), (24, j, 0)] 3 6 ∧ S'.1 (7, j, 0) 0 = -1 ∧ S'.2.2.1 (7, j, 0) 2 = aR (22, j, 0) ∧ S'.2.2.1 (7, j, 0) 3 = aR (23, j, 0) ∧ S'.2.2.1 (7, j, 0) 4 = aR (24, j, 0) := by
  have p0 : (fun x : OId => x = (7, j, 0) ∨ x = (22, j, 0) ∨ x = (23, j, 0) ∨ x = (24, j, 0)) (7, j, 0) := by simp
  have p1 : (fun x : OId => x = (7, j, 0) ∨ x = (22, j, 0) ∨ x = (23, j, 0) ∨ x = (24, j, 0)) (22, j, 0) := by simp
  have p2 : (fun x : OId => x = (7, j, 0) ∨ x = (22, j, 0) ∨ x = (23, j, 0) ∨ x = (24, j, 0)) (23, j, 0) := by simp
  have p3 : (fun x : OId => x = (7, j, 0) ∨ x = (22, j, 0) ∨ x = (23, j, 0) ∨ x = (24, j, 0)) (24, j, 0) := by simp
  have w0 : mdN (fun x : OId => x = (7, j, 0) ∨ x = (22, j, 0) ∨ x = (23, j, 0) ∨ x = (24, j, 0)) S S [] 0 0 := mdN.rf hW
  obtain ⟨B1, hB1⟩ : ∃ B1 : SS, B1 = (setI (setI S.1 (7, j, 0) 0 (-1)) (7, j, 0) 1 (-1), S.2) := ⟨_, rfl⟩
  have u1 : mdN (fun x : OId => x = (7, j, 0)) S B1 [] 0 0 := by
    rw [hB1]
    exact ⟨fun x hx => ⟨((setI_o (fun q => hx q)).trans (setI_o (fun q => hx q))), rfl, rfl⟩, rfl, w0.2.2.1, Nat.le_refl _, rfl, rfl, rfl, fun _ q => Or.inl q⟩
  have v1 : mdN (fun x : OId => x = (7, j, 0) ∨ x = (22, j, 0) ∨ x = (23, j, 0) ∨ x = (24, j, 0)) S B1 [] 0 0 := w0.tr (u1.wk (fun x hx => by rcases hx with rfl; exact p0))
  obtain ⟨A2, hA2⟩ : ∃ A2 : SS, A2 = mk B1 (22, j, 0) (nq B1) ((23, j, 0) :: (24, j, 0) :: ns) 2 := ⟨_, rfl⟩
  have t2 : nms B1 = (22, j, 0) :: (23, j, 0) :: (24, j, 0) :: ns := by
    have h9 := v1.2.1
    rw [hn] at h9
    simpa using h9.symm
  have x2 : ∀ (c : Nat → List AV → SS → Option Out) (L : List (Option AV)) (L2 : List (Nat × AV)) (St : List AV), ev c 3 16 L L2 (aI 2 :: St) (setI (setI S.1 (7, j, 0) 0 (-1)) (7, j, 0) 1 (-1), S.2) = ev c 3 18 L L2 (aR (22, j, 0) :: St) A2 := by
    intro c L L2 St
    rw [← hB1]
    rw [hA2]
    exact ev_nar (m := 2) (pc' := 18) i3_16 rfl (by decide) (by decide) v1.2.2.1 t2 rfl
  have u2 : mdN (fun x : OId => x = (22, j, 0)) B1 A2 [(22, j, 0)] 1 2 := by
    rw [hA2]
    exact md_al v1.2.2.1 t2 rfl
  have v2 : mdN (fun x : OId => x = (7, j, 0) ∨ x = (22, j, 0) ∨ x = (23, j, 0) ∨ x = (24, j, 0)) S A2 [(22, j, 0)] 1 2 := v1.tr (u2.wk (fun x hx => by rw [hx]; exact p1))
  obtain ⟨B3, hB3⟩ : ∃ B3 : SS, B3 = (A2.1, A2.2.1, setV A2.2.2.1 (7, j, 0) 2 (aR (22, j, 0)), A2.2.2.2) := ⟨_, rfl⟩
  have u3 : mdN (fun x : OId => x = (7, j, 0)) A2 B3 [] 0 0 := by
    rw [hB3]
    exact ⟨fun x hx => ⟨rfl, rfl, (setV_o (fun q => hx q))⟩, rfl, v2.2.2.1, Nat.le_refl _, rfl, rfl, rfl, fun _ q => Or.inl q⟩
  have v3 : mdN (fun x : OId => x = (7, j, 0) ∨ x = (22, j, 0) ∨ x = (23, j, 0) ∨ x = (24, j, 0)) S B3 [(22, j, 0)] 1 2 := v2.tr (u3.wk (fun x hx => by rcases hx with rfl; exact p0))
  obtain ⟨A4, hA4⟩ : ∃ A4 : SS, A4 = mk B3 (23, j, 0) (nq B3) ((24, j, 0) :: ns) 2 := ⟨_, rfl⟩
  have t4 : nms B3 = (23, j, 0) :: (24, j, 0) :: ns := by
    have h9 := v3.2.1
    rw [hn] at h9
    simpa using h9.symm
  have x4 : ∀ (c : Nat → List AV → SS → Option Out) (L : List (Option AV)) (L2 : List (Nat × AV)) (St : List AV), ev c 3 23 L L2 (aI 2 :: St) (A2.1, A2.2.1, setV A2.2.2.1 (7, j, 0) 2 (aR (22, j, 0)), A2.2.2.2) = ev c 3 25 L L2 (aR (23, j, 0) :: St) A4 := by
    intro c L L2 St
    rw [← hB3]
    rw [hA4]
    exact ev_nar (m := 2) (pc' := 25) i3_23 rfl (by decide) (by decide) v3.2.2.1 t4 rfl
  have u4 : mdN (fun x : OId => x = (23, j, 0)) B3 A4 [(23, j, 0)] 1 2 := by
    rw [hA4]
    exact md_al v3.2.2.1 t4 rfl
  have v4 : mdN (fun x : OId => x = (7, j, 0) ∨ x = (22, j, 0) ∨ x = (23, j, 0) ∨ x = (24, j, 0)) S A4 [(22, j, 0), (23, j, 0)] 2 4 := v3.tr (u4.wk (fun x hx => by rw [hx]; exact p2))
  obtain ⟨B5, hB5⟩ : ∃ B5 : SS, B5 = (A4.1, A4.2.1, setV A4.2.2.1 (7, j, 0) 3 (aR (23, j, 0)), A4.2.2.2) := ⟨_, rfl⟩
  have u5 : mdN (fun x : OId => x = (7, j, 0)) A4 B5 [] 0 0 := by
    rw [hB5]
    exact ⟨fun x hx => ⟨rfl, rfl, (setV_o (fun q => hx q))⟩, rfl, v4.2.2.1, Nat.le_refl _, rfl, rfl, rfl, fun _ q => Or.inl q⟩
  have v5 : mdN (fun x : OId => x = (7, j, 0) ∨ x = (22, j, 0) ∨ x = (23, j, 0) ∨ x = (24, j, 0)) S B5 [(22, j, 0), (23, j, 0)] 2 4 := v4.tr (u5.wk (fun x hx => by rcases hx with rfl; exact p0))
  obtain ⟨A6, hA6⟩ : ∃ A6 : SS, A6 = mk B5 (24, j, 0) (nq B5) (ns) 2 := ⟨_, rfl⟩
  have t6 : nms B5 = (24, j, 0) :: ns := by
    have h9 := v5.2.1
    rw [hn] at h9
    simpa using h9.symm
  have x6 : ∀ (c : Nat → List AV → SS → Option Out) (L : List (Option AV)) (L2 : List (Nat × AV)) (St : List AV), ev c 3 30 L L2 (aI 2 :: St) (A4.1, A4.2.1, setV A4.2.2.1 (7, j, 0) 3 (aR (23, j, 0)), A4.2.2.2) = ev c 3 32 L L2 (aR (24, j, 0) :: St) A6 := by
    intro c L L2 St
    rw [← hB5]
    rw [hA6]
    exact ev_nar (m := 2) (pc' := 32) i3_30 rfl (by decide) (by decide) v5.2.2.1 t6 rfl
  have u6 : mdN (fun x : OId => x = (24, j, 0)) B5 A6 [(24, j, 0)] 1 2 := by
    rw [hA6]
    exact md_al v5.2.2.1 t6 rfl
  have v6 : mdN (fun x : OId => x = (7, j, 0) ∨ x = (22, j, 0) ∨ x = (23, j, 0) ∨ x = (24, j, 0)) S A6 [(22, j, 0), (23, j, 0), (24, j, 0)] 3 6 := v5.tr (u6.wk (fun x hx => by rw [hx]; exact p3))
  obtain ⟨B7, hB7⟩ : ∃ B7 : SS, B7 = (A6.1, A6.2.1, setV A6.2.2.1 (7, j, 0) 4 (aR (24, j, 0)), A6.2.2.2) := ⟨_, rfl⟩
  have u7 : mdN (fun x : OId => x = (7, j, 0)) A6 B7 [] 0 0 := by
    rw [hB7]
    exact ⟨fun x hx => ⟨rfl, rfl, (setV_o (fun q => hx q))⟩, rfl, v6.2.2.1, Nat.le_refl _, rfl, rfl, rfl, fun _ q => Or.inl q⟩
  have v7 : mdN (fun x : OId => x = (7, j, 0) ∨ x = (22, j, 0) ∨ x = (23, j, 0) ∨ x = (24, j, 0)) S B7 [(22, j, 0), (23, j, 0), (24, j, 0)] 3 6 := v6.tr (u7.wk (fun x hx => by rcases hx with rfl; exact p0))
  refine ⟨B7, ?_, v7, ?_, ?_, ?_, ?_⟩
  · simp only [m3, s3_0, s3_1, s3_4, s3_5, s3_6, s3_9, s3_10, s3_11, s3_14, s3_15, s3_18, s3_21, s3_22, s3_25, s3_28, s3_29, s3_32, s3_35, x2, x4, x6, if_false, if_true, ck_v, ck_x, Option.toList, List.cons_append, List.nil_append, kil_nil, N_1, o10, o00, exN_0, exN_1, exN_2, exN_3, exN_4, exN_5, Ex]
    rw [hB7]
  · skip
    (try simp only [hB7, hA6, hB5, hA4, hB3, hA2, hB1]) <;> (try simp [mk, setRow, setRowV, setI, setV, hB7, hA6, hB5, hA4, hB3, hA2, hB1])
  · skip
    (try simp only [hB7, hA6, hB5, hA4, hB3, hA2, hB1]) <;> (try simp [mk, setRow, setRowV, setI, setV, hB7, hA6, hB5, hA4, hB3, hA2, hB1])
  · skip
    (try simp only [hB7, hA6, hB5, hA4, hB3, hA2, hB1]) <;> (try simp [mk, setRow, setRowV, setI, setV, hB7, hA6, hB5, hA4, hB3, hA2, hB1])
  · skip
    (try simp only [hB7, hA6, hB5, hA4, hB3, hA2, hB1]) <;> (try simp [mk, setRow, setRowV, setI, setV, hB7, hA6, hB5, hA4, hB3, hA2, hB1])

theorem cn5 {d : Nat} {S : SS} {ns : List OId}  (hW : namW S) (hn : nms S = (26, 0, 0) :: (27, 0, 0) :: (28, 0, 0) :: (29, 0, 0) :: ns)  : ∃ S', evm (d + 2) 5 [aR (6, 0, 0)] S = some (.inl none, S') ∧ mdN (fun x : OId => x = (6, 0, 0) ∨ x = (26, 0, 0) ∨ x = (27, 0, 0) ∨ x = (28, 0, 0) ∨ x = (29, 0, 0)) S S' [(26, 0, 0), (27, 0, 0), (28, 0, 0), (29, 0, 0)] 4 70 ∧ S'.2.2.1 (6, 0, 0) 1 = aR (26, 0, 0) ∧ S'.2.2.1 (6, 0, 0) 2 = aR (27, 0, 0) ∧ S'.2.2.1 (6, 0, 0) 3 = aR (28, 0, 0) ∧ S'.2.2.1 (6, 0, 0) 4 = aR (29, 0, 0) := by
  have p0 : (fun x : OId => x = (6, 0, 0) ∨ x = (26, 0, 0) ∨ x = (27, 0, 0) ∨ x = (28, 0, 0) ∨ x = (29, 0, 0)) (6, 0, 0) := by simp
  have p1 : (fun x : OId => x = (6, 0, 0) ∨ x = (26, 0, 0) ∨ x = (27, 0, 0) ∨ x = (28, 0, 0) ∨ x = (29, 0, 0)) (26, 0, 0) := by simp
  have p2 : (fun x : OId => x = (6, 0, 0) ∨ x = (26, 0, 0) ∨ x = (27, 0, 0) ∨ x = (28, 0, 0) ∨ x = (29, 0, 0)) (27, 0, 0) := by simp
  have p3 : (fun x : OId => x = (6, 0, 0) ∨ x = (26, 0, 0) ∨ x = (27, 0, 0) ∨ x = (28, 0, 0) ∨ x = (29, 0, 0)) (28, 0, 0) := by simp
  have p4 : (fun x : OId => x = (6, 0, 0) ∨ x = (26, 0, 0) ∨ x = (27, 0, 0) ∨ x = (28, 0, 0) ∨ x = (29, 0, 0)) (29, 0, 0) := by simp
  have w0 : mdN (fun x : OId => x = (6, 0, 0) ∨ x = (26, 0, 0) ∨ x = (27, 0, 0) ∨ x = (28, 0, 0) ∨ x = (29, 0, 0)) S S [] 0 0 := mdN.rf hW
  obtain ⟨B1, hB1⟩ : ∃ B1 : SS, B1 = (setI S.1 (6, 0, 0) 0 0, S.2) := ⟨_, rfl⟩
  have u1 : mdN (fun x : OId => x = (6, 0, 0)) S B1 [] 0 0 := by
    rw [hB1]
    exact ⟨fun x hx => ⟨(setI_o (fun q => hx q)), rfl, rfl⟩, rfl, w0.2.2.1, Nat.le_refl _, rfl, rfl, rfl, fun _ q => Or.inl q⟩
  have v1 : mdN (fun x : OId => x = (6, 0, 0) ∨ x = (26, 0, 0) ∨ x = (27, 0, 0) ∨ x = (28, 0, 0) ∨ x = (29, 0, 0)) S B1 [] 0 0 := w0.tr (u1.wk (fun x hx => by rcases hx with rfl; exact p0))
  obtain ⟨A2, hA2⟩ : ∃ A2 : SS, A2 = mk B1 (26, 0, 0) (nq B1) ((27, 0, 0) :: (28, 0, 0) :: (29, 0, 0) :: ns) 7 := ⟨_, rfl⟩
  have t2 : nms B1 = (26, 0, 0) :: (27, 0, 0) :: (28, 0, 0) :: (29, 0, 0) :: ns := by
    have h9 := v1.2.1
    rw [hn] at h9
    simpa using h9.symm
  have x2 : ∀ (c : Nat → List AV → SS → Option Out) (L : List (Option AV)) (L2 : List (Nat × AV)) (St : List AV), ev c 5 12 L L2 (aI 7 :: St) (setI S.1 (6, 0, 0) 0 0, S.2) = ev c 5 14 L L2 (aR (26, 0, 0) :: St) A2 := by
    intro c L L2 St
    rw [← hB1]
    rw [hA2]
    exact ev_nar (m := 7) (pc' := 14) i5_12 rfl (by decide) (by decide) v1.2.2.1 t2 rfl
  have u2 : mdN (fun x : OId => x = (26, 0, 0)) B1 A2 [(26, 0, 0)] 1 7 := by
    rw [hA2]
    exact md_al v1.2.2.1 t2 rfl
  have v2 : mdN (fun x : OId => x = (6, 0, 0) ∨ x = (26, 0, 0) ∨ x = (27, 0, 0) ∨ x = (28, 0, 0) ∨ x = (29, 0, 0)) S A2 [(26, 0, 0)] 1 7 := v1.tr (u2.wk (fun x hx => by rw [hx]; exact p1))
  obtain ⟨B3, hB3⟩ : ∃ B3 : SS, B3 = (A2.1, A2.2.1, setV A2.2.2.1 (6, 0, 0) 1 (aR (26, 0, 0)), A2.2.2.2) := ⟨_, rfl⟩
  have u3 : mdN (fun x : OId => x = (6, 0, 0)) A2 B3 [] 0 0 := by
    rw [hB3]
    exact ⟨fun x hx => ⟨rfl, rfl, (setV_o (fun q => hx q))⟩, rfl, v2.2.2.1, Nat.le_refl _, rfl, rfl, rfl, fun _ q => Or.inl q⟩
  have v3 : mdN (fun x : OId => x = (6, 0, 0) ∨ x = (26, 0, 0) ∨ x = (27, 0, 0) ∨ x = (28, 0, 0) ∨ x = (29, 0, 0)) S B3 [(26, 0, 0)] 1 7 := v2.tr (u3.wk (fun x hx => by rcases hx with rfl; exact p0))
  obtain ⟨A4, hA4⟩ : ∃ A4 : SS, A4 = mk B3 (27, 0, 0) (nq B3) ((28, 0, 0) :: (29, 0, 0) :: ns) 7 := ⟨_, rfl⟩
  have t4 : nms B3 = (27, 0, 0) :: (28, 0, 0) :: (29, 0, 0) :: ns := by
    have h9 := v3.2.1
    rw [hn] at h9
    simpa using h9.symm
  have x4 : ∀ (c : Nat → List AV → SS → Option Out) (L : List (Option AV)) (L2 : List (Nat × AV)) (St : List AV), ev c 5 20 L L2 (aI 7 :: St) (A2.1, A2.2.1, setV A2.2.2.1 (6, 0, 0) 1 (aR (26, 0, 0)), A2.2.2.2) = ev c 5 22 L L2 (aR (27, 0, 0) :: St) A4 := by
    intro c L L2 St
    rw [← hB3]
    rw [hA4]
    exact ev_nar (m := 7) (pc' := 22) i5_20 rfl (by decide) (by decide) v3.2.2.1 t4 rfl
  have u4 : mdN (fun x : OId => x = (27, 0, 0)) B3 A4 [(27, 0, 0)] 1 7 := by
    rw [hA4]
    exact md_al v3.2.2.1 t4 rfl
  have v4 : mdN (fun x : OId => x = (6, 0, 0) ∨ x = (26, 0, 0) ∨ x = (27, 0, 0) ∨ x = (28, 0, 0) ∨ x = (29, 0, 0)) S A4 [(26, 0, 0), (27, 0, 0)] 2 14 := v3.tr (u4.wk (fun x hx => by rw [hx]; exact p2))
  obtain ⟨B5, hB5⟩ : ∃ B5 : SS, B5 = (A4.1, A4.2.1, setV A4.2.2.1 (6, 0, 0) 2 (aR (27, 0, 0)), A4.2.2.2) := ⟨_, rfl⟩
  have u5 : mdN (fun x : OId => x = (6, 0, 0)) A4 B5 [] 0 0 := by
    rw [hB5]
    exact ⟨fun x hx => ⟨rfl, rfl, (setV_o (fun q => hx q))⟩, rfl, v4.2.2.1, Nat.le_refl _, rfl, rfl, rfl, fun _ q => Or.inl q⟩
  have v5 : mdN (fun x : OId => x = (6, 0, 0) ∨ x = (26, 0, 0) ∨ x = (27, 0, 0) ∨ x = (28, 0, 0) ∨ x = (29, 0, 0)) S B5 [(26, 0, 0), (27, 0, 0)] 2 14 := v4.tr (u5.wk (fun x hx => by rcases hx with rfl; exact p0))
  obtain ⟨A6, hA6⟩ : ∃ A6 : SS, A6 = mk B5 (28, 0, 0) (nq B5) ((29, 0, 0) :: ns) 7 := ⟨_, rfl⟩
  have t6 : nms B5 = (28, 0, 0) :: (29, 0, 0) :: ns := by
    have h9 := v5.2.1
    rw [hn] at h9
    simpa using h9.symm
  have x6 : ∀ (c : Nat → List AV → SS → Option Out) (L : List (Option AV)) (L2 : List (Nat × AV)) (St : List AV), ev c 5 28 L L2 (aI 7 :: St) (A4.1, A4.2.1, setV A4.2.2.1 (6, 0, 0) 2 (aR (27, 0, 0)), A4.2.2.2) = ev c 5 30 L L2 (aR (28, 0, 0) :: St) A6 := by
    intro c L L2 St
    rw [← hB5]
    rw [hA6]
    exact ev_nar (m := 7) (pc' := 30) i5_28 rfl (by decide) (by decide) v5.2.2.1 t6 rfl
  have u6 : mdN (fun x : OId => x = (28, 0, 0)) B5 A6 [(28, 0, 0)] 1 7 := by
    rw [hA6]
    exact md_al v5.2.2.1 t6 rfl
  have v6 : mdN (fun x : OId => x = (6, 0, 0) ∨ x = (26, 0, 0) ∨ x = (27, 0, 0) ∨ x = (28, 0, 0) ∨ x = (29, 0, 0)) S A6 [(26, 0, 0), (27, 0, 0), (28, 0, 0)] 3 21 := v5.tr (u6.wk (fun x hx => by rw [hx]; exact p3))
  obtain ⟨B7, hB7⟩ : ∃ B7 : SS, B7 = (A6.1, A6.2.1, setV A6.2.2.1 (6, 0, 0) 3 (aR (28, 0, 0)), A6.2.2.2) := ⟨_, rfl⟩
  have u7 : mdN (fun x : OId => x = (6, 0, 0)) A6 B7 [] 0 0 := by
    rw [hB7]
    exact ⟨fun x hx => ⟨rfl, rfl, (setV_o (fun q => hx q))⟩, rfl, v6.2.2.1, Nat.le_refl _, rfl, rfl, rfl, fun _ q => Or.inl q⟩
  have v7 : mdN (fun x : OId => x = (6, 0, 0) ∨ x = (26, 0, 0) ∨ x = (27, 0, 0) ∨ x = (28, 0, 0) ∨ x = (29, 0, 0)) S B7 [(26, 0, 0), (27, 0, 0), (28, 0, 0)] 3 21 := v6.tr (u7.wk (fun x hx => by rcases hx with rfl; exact p0))
  obtain ⟨A8, hA8⟩ : ∃ A8 : SS, A8 = mk B7 (29, 0, 0) (nq B7) (ns) 49 := ⟨_, rfl⟩
  have t8 : nms B7 = (29, 0, 0) :: ns := by
    have h9 := v7.2.1
    rw [hn] at h9
    simpa using h9.symm
  have x8 : ∀ (c : Nat → List AV → SS → Option Out) (L : List (Option AV)) (L2 : List (Nat × AV)) (St : List AV), ev c 5 36 L L2 (aI 49 :: St) (A6.1, A6.2.1, setV A6.2.2.1 (6, 0, 0) 3 (aR (28, 0, 0)), A6.2.2.2) = ev c 5 38 L L2 (aR (29, 0, 0) :: St) A8 := by
    intro c L L2 St
    rw [← hB7]
    rw [hA8]
    exact ev_nar (m := 49) (pc' := 38) i5_36 rfl (by decide) (by decide) v7.2.2.1 t8 rfl
  have u8 : mdN (fun x : OId => x = (29, 0, 0)) B7 A8 [(29, 0, 0)] 1 49 := by
    rw [hA8]
    exact md_al v7.2.2.1 t8 rfl
  have v8 : mdN (fun x : OId => x = (6, 0, 0) ∨ x = (26, 0, 0) ∨ x = (27, 0, 0) ∨ x = (28, 0, 0) ∨ x = (29, 0, 0)) S A8 [(26, 0, 0), (27, 0, 0), (28, 0, 0), (29, 0, 0)] 4 70 := v7.tr (u8.wk (fun x hx => by rw [hx]; exact p4))
  obtain ⟨B9, hB9⟩ : ∃ B9 : SS, B9 = (A8.1, A8.2.1, setV A8.2.2.1 (6, 0, 0) 4 (aR (29, 0, 0)), A8.2.2.2) := ⟨_, rfl⟩
  have u9 : mdN (fun x : OId => x = (6, 0, 0)) A8 B9 [] 0 0 := by
    rw [hB9]
    exact ⟨fun x hx => ⟨rfl, rfl, (setV_o (fun q => hx q))⟩, rfl, v8.2.2.1, Nat.le_refl _, rfl, rfl, rfl, fun _ q => Or.inl q⟩
  have v9 : mdN (fun x : OId => x = (6, 0, 0) ∨ x = (26, 0, 0) ∨ x = (27, 0, 0) ∨ x = (28, 0, 0) ∨ x = (29, 0, 0)) S B9 [(26, 0, 0), (27, 0, 0), (28, 0, 0), (29, 0, 0)] 4 70 := v8.tr (u9.wk (fun x hx => by rcases hx with rfl; exact p0))
  refine ⟨B9, ?_, v9, ?_, ?_, ?_, ?_⟩
  · simp only [m5, s5_0, s5_1, s5_4, s5_5, s5_6, s5_9, s5_10, s5_14, s5_17, s5_18, s5_22, s5_25, s5_26, s5_30, s5_33, s5_34, s5_38, s5_41, x2, x4, x6, x8, if_false, if_true, ck_v, ck_x, Option.toList, List.cons_append, List.nil_append, kil_nil, N_1, o10, o00, exN_0, exN_1, exN_2, exN_3, exN_4, exN_5, Ex]
    rw [hB9]
  · skip
    (try simp only [hB9, hA8, hB7, hA6, hB5, hA4, hB3, hA2, hB1]) <;> (try simp [mk, setRow, setRowV, setI, setV, hB9, hA8, hB7, hA6, hB5, hA4, hB3, hA2, hB1])
  · skip
    (try simp only [hB9, hA8, hB7, hA6, hB5, hA4, hB3, hA2, hB1]) <;> (try simp [mk, setRow, setRowV, setI, setV, hB9, hA8, hB7, hA6, hB5, hA4, hB3, hA2, hB1])
  · skip
    (try simp only [hB9, hA8, hB7, hA6, hB5, hA4, hB3, hA2, hB1]) <;> (try simp [mk, setRow, setRowV, setI, setV, hB9, hA8, hB7, hA6, hB5, hA4, hB3, hA2, hB1])
  · skip
    (try simp only [hB9, hA8, hB7, hA6, hB5, hA4, hB3, hA2, hB1]) <;> (try simp [mk, setRow, setRowV, setI, setV, hB9, hA8, hB7, hA6, hB5, hA4, hB3, hA2, hB1])

theorem cn7 {d : Nat} {S : SS} {ns : List OId}  (hW : namW S) (hn : nms S = (33, 0, 0) :: (34, 0, 0) :: ns)  : ∃ S', evm (d + 2) 7 [aR (9, 0, 0), aR (6, 0, 0)] S = some (.inl none, S') ∧ mdN (fun x : OId => x = (9, 0, 0) ∨ x = (33, 0, 0) ∨ x = (34, 0, 0)) S S' [(33, 0, 0), (34, 0, 0)] 2 56 ∧ S'.2.2.1 (9, 0, 0) 0 = aR (6, 0, 0) ∧ S'.2.2.1 (9, 0, 0) 1 = aR (33, 0, 0) ∧ S'.2.2.1 (9, 0, 0) 2 = aR (34, 0, 0) ∧ (∀ f, S'.2.1 (34, 0, 0) f = aL 0) := by
  have p0 : (fun x : OId => x = (9, 0, 0) ∨ x = (33, 0, 0) ∨ x = (34, 0, 0)) (33, 0, 0) := by simp
  have p1 : (fun x : OId => x = (9, 0, 0) ∨ x = (33, 0, 0) ∨ x = (34, 0, 0)) (9, 0, 0) := by simp
  have p2 : (fun x : OId => x = (9, 0, 0) ∨ x = (33, 0, 0) ∨ x = (34, 0, 0)) (34, 0, 0) := by simp
  have w0 : mdN (fun x : OId => x = (9, 0, 0) ∨ x = (33, 0, 0) ∨ x = (34, 0, 0)) S S [] 0 0 := mdN.rf hW
  obtain ⟨A1, hA1⟩ : ∃ A1 : SS, A1 = mk S (33, 0, 0) (nq S) ((34, 0, 0) :: ns) 7 := ⟨_, rfl⟩
  have t1 : nms S = (33, 0, 0) :: (34, 0, 0) :: ns := hn
  have x1 : ∀ (c : Nat → List AV → SS → Option Out) (L : List (Option AV)) (L2 : List (Nat × AV)) (St : List AV), ev c 7 7 L L2 (aI 7 :: St) S = ev c 7 9 L L2 (aR (33, 0, 0) :: St) A1 := by
    intro c L L2 St
    rw [hA1]
    exact ev_nar (m := 7) (pc' := 9) i7_7 rfl (by decide) (by decide) w0.2.2.1 t1 rfl
  have u1 : mdN (fun x : OId => x = (33, 0, 0)) S A1 [(33, 0, 0)] 1 7 := by
    rw [hA1]
    exact md_al w0.2.2.1 t1 rfl
  have v1 : mdN (fun x : OId => x = (9, 0, 0) ∨ x = (33, 0, 0) ∨ x = (34, 0, 0)) S A1 [(33, 0, 0)] 1 7 := w0.tr (u1.wk (fun x hx => by rw [hx]; exact p0))
  obtain ⟨B2, hB2⟩ : ∃ B2 : SS, B2 = (A1.1, A1.2.1, setV A1.2.2.1 (9, 0, 0) 1 (aR (33, 0, 0)), A1.2.2.2) := ⟨_, rfl⟩
  have u2 : mdN (fun x : OId => x = (9, 0, 0)) A1 B2 [] 0 0 := by
    rw [hB2]
    exact ⟨fun x hx => ⟨rfl, rfl, (setV_o (fun q => hx q))⟩, rfl, v1.2.2.1, Nat.le_refl _, rfl, rfl, rfl, fun _ q => Or.inl q⟩
  have v2 : mdN (fun x : OId => x = (9, 0, 0) ∨ x = (33, 0, 0) ∨ x = (34, 0, 0)) S B2 [(33, 0, 0)] 1 7 := v1.tr (u2.wk (fun x hx => by rcases hx with rfl; exact p1))
  obtain ⟨A3, hA3⟩ : ∃ A3 : SS, A3 = mk B2 (34, 0, 0) (nq B2) (ns) 49 := ⟨_, rfl⟩
  have t3 : nms B2 = (34, 0, 0) :: ns := by
    have h9 := v2.2.1
    rw [hn] at h9
    simpa using h9.symm
  have x3 : ∀ (c : Nat → List AV → SS → Option Out) (L : List (Option AV)) (L2 : List (Nat × AV)) (St : List AV), ev c 7 15 L L2 (aI 49 :: St) (A1.1, A1.2.1, setV A1.2.2.1 (9, 0, 0) 1 (aR (33, 0, 0)), A1.2.2.2) = ev c 7 17 L L2 (aR (34, 0, 0) :: St) A3 := by
    intro c L L2 St
    rw [← hB2]
    rw [hA3]
    exact ev_nar (m := 49) (pc' := 17) i7_15 rfl (by decide) (by decide) v2.2.2.1 t3 rfl
  have u3 : mdN (fun x : OId => x = (34, 0, 0)) B2 A3 [(34, 0, 0)] 1 49 := by
    rw [hA3]
    exact md_al v2.2.2.1 t3 rfl
  have v3 : mdN (fun x : OId => x = (9, 0, 0) ∨ x = (33, 0, 0) ∨ x = (34, 0, 0)) S A3 [(33, 0, 0), (34, 0, 0)] 2 56 := v2.tr (u3.wk (fun x hx => by rw [hx]; exact p2))
  obtain ⟨B4, hB4⟩ : ∃ B4 : SS, B4 = (A3.1, A3.2.1, setV (setV A3.2.2.1 (9, 0, 0) 2 (aR (34, 0, 0))) (9, 0, 0) 0 (aR (6, 0, 0)), A3.2.2.2) := ⟨_, rfl⟩
  have u4 : mdN (fun x : OId => x = (9, 0, 0)) A3 B4 [] 0 0 := by
    rw [hB4]
    exact ⟨fun x hx => ⟨rfl, rfl, ((setV_o (fun q => hx q)).trans (setV_o (fun q => hx q)))⟩, rfl, v3.2.2.1, Nat.le_refl _, rfl, rfl, rfl, fun _ q => Or.inl q⟩
  have v4 : mdN (fun x : OId => x = (9, 0, 0) ∨ x = (33, 0, 0) ∨ x = (34, 0, 0)) S B4 [(33, 0, 0), (34, 0, 0)] 2 56 := v3.tr (u4.wk (fun x hx => by rcases hx with rfl; exact p1))
  refine ⟨B4, ?_, v4, ?_, ?_, ?_, ?_⟩
  · simp only [m7, s7_0, s7_1, s7_4, s7_5, s7_9, s7_12, s7_13, s7_17, s7_20, s7_21, s7_22, s7_25, x1, x3, if_false, if_true, ck_v, ck_x, Option.toList, List.cons_append, List.nil_append, kil_nil, N_1, o10, o00, exN_0, exN_1, exN_2, exN_3, exN_4, exN_5, Ex]
    rw [hB4]
  · skip
    (try simp only [hB4, hA3, hB2, hA1]) <;> (try simp [mk, setRow, setRowV, setI, setV, dfV, kOf, hB4, hA3, hB2, hA1])
  · skip
    (try simp only [hB4, hA3, hB2, hA1]) <;> (try simp [mk, setRow, setRowV, setI, setV, dfV, kOf, hB4, hA3, hB2, hA1])
  · skip
    (try simp only [hB4, hA3, hB2, hA1]) <;> (try simp [mk, setRow, setRowV, setI, setV, dfV, kOf, hB4, hA3, hB2, hA1])
  · intro f
    (try simp only [hB4, hA3, hB2, hA1]) <;> (try simp [mk, setRow, setRowV, setI, setV, dfV, kOf, hB4, hA3, hB2, hA1])

def PBk (j : Nat) (x : OId) : Prop := inBk j x ∨ x = (20, j, 0)
def plN (j : Nat) : List OId := [(22, j, 0), (23, j, 0), (24, j, 0)]
def staNm (j : Nat) : Nat → Nat → List OId
  | _, 0 => []
  | i, r + 1 => (10, j, i) :: staNm j (i + 1) r
def bkR (R : OId → Nat → AV) (j : Nat) : Prop := (R (4, j, 0) 8 = aR (20, j, 0) ∧ R (4, j, 0) 9 = aR (10, j, 7) ∧ R (4, j, 0) 10 = aR (21, j, 0) ∧ R (4, j, 0) 11 = aR (7, j, 0) ∧ ∀ k, k < 7 → R (20, j, 0) k = aR (10, j, k)) ∧ R (7, j, 0) 2 = aR (22, j, 0) ∧ R (7, j, 0) 3 = aR (23, j, 0) ∧ R (7, j, 0) 4 = aR (24, j, 0)
def bkI (I : OId → Nat → Int32) (j : Nat) : Prop := (I (4, j, 0) 0 = 10 ∧ I (4, j, 0) 1 = 20 ∧ I (4, j, 0) 2 = 40 ∧ I (4, j, 0) 3 = 0 ∧ I (4, j, 0) 4 = -1 ∧ I (4, j, 0) 5 = 0 ∧ I (4, j, 0) 6 = 0 ∧ I (4, j, 0) 7 = 0) ∧ I (7, j, 0) 0 = -1 ∧ ∀ f, I (21, j, 0) f = 0
theorem k2 {d j t : Nat} {S : SS} : evm (d + 1) 2 [aR (10, j, t)] S = some (.inl none, S) := by
  simp only [m2, s2_0, s2_1, s2_4, if_false, if_true, ck_v, ck_x, Option.toList, List.cons_append, List.nil_append, kil_nil, N_1, o10, o00, exN_0, exN_1, exN_2, exN_3, exN_4, exN_5, Ex]
theorem k3' {d j : Nat} {S : SS} {ns : List OId} (hW : namW S) (hn : nms S = plN j ++ (ns)) : ∃ S', evm (d + 2) 3 [aR (7, j, 0)] S = some (.inl none, S') ∧ mdN (fun x : OId => x = (7, j, 0) ∨ x = (22, j, 0) ∨ x = (23, j, 0) ∨ x = (24, j, 0)) S S' (plN j) 3 6 ∧ S'.1 (7, j, 0) 0 = -1 ∧ S'.2.2.1 (7, j, 0) 2 = aR (22, j, 0) ∧ S'.2.2.1 (7, j, 0) 3 = aR (23, j, 0) ∧ S'.2.2.1 (7, j, 0) 4 = aR (24, j, 0) := k3 hW hn

theorem cn6 {d : Nat} {S : SS} {ns : List OId}  (hW : namW S) (hn : nms S = (7, 8, 0) :: (plN 8 ++ ((30, 0, 0) :: (31, 0, 0) :: (32, 0, 0) :: ns)))  : ∃ S', evm (d + 3) 6 [aR (8, 0, 0), aR (6, 0, 0)] S = some (.inl none, S') ∧ mdN (fun x : OId => x = (8, 0, 0) ∨ x = (7, 8, 0) ∨ x = (22, 8, 0) ∨ x = (23, 8, 0) ∨ x = (24, 8, 0) ∨ x = (30, 0, 0) ∨ x = (31, 0, 0) ∨ x = (32, 0, 0)) S S' (((([(7, 8, 0)] ++ plN 8) ++ [(30, 0, 0)]) ++ [(31, 0, 0)]) ++ [(32, 0, 0)]) 7 2476 ∧ S'.2.2.1 (8, 0, 0) 0 = aR (6, 0, 0) ∧ S'.2.2.1 (8, 0, 0) 1 = aR (7, 8, 0) ∧ S'.2.2.1 (8, 0, 0) 2 = aR (30, 0, 0) ∧ S'.2.2.1 (8, 0, 0) 3 = aR (31, 0, 0) ∧ S'.2.2.1 (8, 0, 0) 4 = aR (32, 0, 0) ∧ S'.2.2.1 (7, 8, 0) 2 = aR (22, 8, 0) ∧ S'.2.2.1 (7, 8, 0) 3 = aR (23, 8, 0) ∧ S'.2.2.1 (7, 8, 0) 4 = aR (24, 8, 0) := by
  have p0 : (fun x : OId => x = (8, 0, 0) ∨ x = (7, 8, 0) ∨ x = (22, 8, 0) ∨ x = (23, 8, 0) ∨ x = (24, 8, 0) ∨ x = (30, 0, 0) ∨ x = (31, 0, 0) ∨ x = (32, 0, 0)) (7, 8, 0) := by simp
  have p1 : (fun x : OId => x = (8, 0, 0) ∨ x = (7, 8, 0) ∨ x = (22, 8, 0) ∨ x = (23, 8, 0) ∨ x = (24, 8, 0) ∨ x = (30, 0, 0) ∨ x = (31, 0, 0) ∨ x = (32, 0, 0)) (8, 0, 0) := by simp
  have p2 : (fun x : OId => x = (8, 0, 0) ∨ x = (7, 8, 0) ∨ x = (22, 8, 0) ∨ x = (23, 8, 0) ∨ x = (24, 8, 0) ∨ x = (30, 0, 0) ∨ x = (31, 0, 0) ∨ x = (32, 0, 0)) (30, 0, 0) := by simp
  have p3 : (fun x : OId => x = (8, 0, 0) ∨ x = (7, 8, 0) ∨ x = (22, 8, 0) ∨ x = (23, 8, 0) ∨ x = (24, 8, 0) ∨ x = (30, 0, 0) ∨ x = (31, 0, 0) ∨ x = (32, 0, 0)) (31, 0, 0) := by simp
  have p4 : (fun x : OId => x = (8, 0, 0) ∨ x = (7, 8, 0) ∨ x = (22, 8, 0) ∨ x = (23, 8, 0) ∨ x = (24, 8, 0) ∨ x = (30, 0, 0) ∨ x = (31, 0, 0) ∨ x = (32, 0, 0)) (32, 0, 0) := by simp
  have w0 : mdN (fun x : OId => x = (8, 0, 0) ∨ x = (7, 8, 0) ∨ x = (22, 8, 0) ∨ x = (23, 8, 0) ∨ x = (24, 8, 0) ∨ x = (30, 0, 0) ∨ x = (31, 0, 0) ∨ x = (32, 0, 0)) S S [] 0 0 := mdN.rf hW
  obtain ⟨A1, hA1⟩ : ∃ A1 : SS, A1 = mk S (7, 8, 0) (nq S) (plN 8 ++ ((30, 0, 0) :: (31, 0, 0) :: (32, 0, 0) :: ns)) 5 := ⟨_, rfl⟩
  have t1 : nms S = (7, 8, 0) :: (plN 8 ++ ((30, 0, 0) :: (31, 0, 0) :: (32, 0, 0) :: ns)) := hn
  have x1 : ∀ (c : Nat → List AV → SS → Option Out) (L : List (Option AV)) (L2 : List (Nat × AV)) (St : List AV), ev c 6 5 L L2 (St) S = ev c 6 8 L L2 (aR (7, 8, 0) :: St) A1 := by
    intro c L L2 St
    rw [hA1]
    exact ev_nw (pc' := 8) i6_5 rfl rfl w0.2.2.1 t1 rfl
  have u1 : mdN (fun x : OId => x = (7, 8, 0)) S A1 [(7, 8, 0)] 1 5 := by
    rw [hA1]
    exact md_al w0.2.2.1 t1 rfl
  have v1 : mdN (fun x : OId => x = (8, 0, 0) ∨ x = (7, 8, 0) ∨ x = (22, 8, 0) ∨ x = (23, 8, 0) ∨ x = (24, 8, 0) ∨ x = (30, 0, 0) ∨ x = (31, 0, 0) ∨ x = (32, 0, 0)) S A1 [(7, 8, 0)] 1 5 := w0.tr (u1.wk (fun x hx => by rw [hx]; exact p0))
  have t2 : nms A1 = plN 8 ++ ((30, 0, 0) :: (31, 0, 0) :: (32, 0, 0) :: ns) := by
    have h9 := v1.2.1
    rw [hn] at h9
    simpa using h9.symm
  obtain ⟨C2, x2, u2, a2, b2, c2, d2⟩ := k3' (d := d) (j := 8) v1.2.2.1 t2
  have v2 : mdN (fun x : OId => x = (8, 0, 0) ∨ x = (7, 8, 0) ∨ x = (22, 8, 0) ∨ x = (23, 8, 0) ∨ x = (24, 8, 0) ∨ x = (30, 0, 0) ∨ x = (31, 0, 0) ∨ x = (32, 0, 0)) S C2 ([(7, 8, 0)] ++ plN 8) 4 11 := v1.tr (u2.wk (fun x hx => by rcases hx with h | h | h | h <;> rw [h] <;> simp))
  have g2_0 : C2.2.2.1 (8, 0, 0) = A1.2.2.1 (8, 0, 0) := (u2.1 (8, 0, 0) (by simp [PBk, inBk])).2.2
  have g2_1 : C2.1 (8, 0, 0) = A1.1 (8, 0, 0) := (u2.1 (8, 0, 0) (by simp [PBk, inBk])).1
  obtain ⟨B3, hB3⟩ : ∃ B3 : SS, B3 = (C2.1, C2.2.1, setV C2.2.2.1 (8, 0, 0) 1 (aR (7, 8, 0)), C2.2.2.2) := ⟨_, rfl⟩
  have u3 : mdN (fun x : OId => x = (8, 0, 0)) C2 B3 [] 0 0 := by
    rw [hB3]
    exact ⟨fun x hx => ⟨rfl, rfl, (setV_o (fun q => hx q))⟩, rfl, v2.2.2.1, Nat.le_refl _, rfl, rfl, rfl, fun _ q => Or.inl q⟩
  have v3 : mdN (fun x : OId => x = (8, 0, 0) ∨ x = (7, 8, 0) ∨ x = (22, 8, 0) ∨ x = (23, 8, 0) ∨ x = (24, 8, 0) ∨ x = (30, 0, 0) ∨ x = (31, 0, 0) ∨ x = (32, 0, 0)) S B3 ([(7, 8, 0)] ++ plN 8) 4 11 := v2.tr (u3.wk (fun x hx => by rcases hx with rfl; exact p1))
  obtain ⟨A4, hA4⟩ : ∃ A4 : SS, A4 = mk B3 (30, 0, 0) (nq B3) ((31, 0, 0) :: (32, 0, 0) :: ns) 7 := ⟨_, rfl⟩
  have t4 : nms B3 = (30, 0, 0) :: (31, 0, 0) :: (32, 0, 0) :: ns := by
    have h9 := v3.2.1
    rw [hn] at h9
    simpa using h9.symm
  have x4 : ∀ (c : Nat → List AV → SS → Option Out) (L : List (Option AV)) (L2 : List (Nat × AV)) (St : List AV), ev c 6 18 L L2 (aI 7 :: St) (C2.1, C2.2.1, setV C2.2.2.1 (8, 0, 0) 1 (aR (7, 8, 0)), C2.2.2.2) = ev c 6 20 L L2 (aR (30, 0, 0) :: St) A4 := by
    intro c L L2 St
    rw [← hB3]
    rw [hA4]
    exact ev_nar (m := 7) (pc' := 20) i6_18 rfl (by decide) (by decide) v3.2.2.1 t4 rfl
  have u4 : mdN (fun x : OId => x = (30, 0, 0)) B3 A4 [(30, 0, 0)] 1 7 := by
    rw [hA4]
    exact md_al v3.2.2.1 t4 rfl
  have v4 : mdN (fun x : OId => x = (8, 0, 0) ∨ x = (7, 8, 0) ∨ x = (22, 8, 0) ∨ x = (23, 8, 0) ∨ x = (24, 8, 0) ∨ x = (30, 0, 0) ∨ x = (31, 0, 0) ∨ x = (32, 0, 0)) S A4 (([(7, 8, 0)] ++ plN 8) ++ [(30, 0, 0)]) 5 18 := v3.tr (u4.wk (fun x hx => by rw [hx]; exact p2))
  obtain ⟨B5, hB5⟩ : ∃ B5 : SS, B5 = (A4.1, A4.2.1, setV A4.2.2.1 (8, 0, 0) 2 (aR (30, 0, 0)), A4.2.2.2) := ⟨_, rfl⟩
  have u5 : mdN (fun x : OId => x = (8, 0, 0)) A4 B5 [] 0 0 := by
    rw [hB5]
    exact ⟨fun x hx => ⟨rfl, rfl, (setV_o (fun q => hx q))⟩, rfl, v4.2.2.1, Nat.le_refl _, rfl, rfl, rfl, fun _ q => Or.inl q⟩
  have v5 : mdN (fun x : OId => x = (8, 0, 0) ∨ x = (7, 8, 0) ∨ x = (22, 8, 0) ∨ x = (23, 8, 0) ∨ x = (24, 8, 0) ∨ x = (30, 0, 0) ∨ x = (31, 0, 0) ∨ x = (32, 0, 0)) S B5 (([(7, 8, 0)] ++ plN 8) ++ [(30, 0, 0)]) 5 18 := v4.tr (u5.wk (fun x hx => by rcases hx with rfl; exact p1))
  obtain ⟨A6, hA6⟩ : ∃ A6 : SS, A6 = mk B5 (31, 0, 0) (nq B5) ((32, 0, 0) :: ns) 7 := ⟨_, rfl⟩
  have t6 : nms B5 = (31, 0, 0) :: (32, 0, 0) :: ns := by
    have h9 := v5.2.1
    rw [hn] at h9
    simpa using h9.symm
  have x6 : ∀ (c : Nat → List AV → SS → Option Out) (L : List (Option AV)) (L2 : List (Nat × AV)) (St : List AV), ev c 6 26 L L2 (aI 7 :: St) (A4.1, A4.2.1, setV A4.2.2.1 (8, 0, 0) 2 (aR (30, 0, 0)), A4.2.2.2) = ev c 6 28 L L2 (aR (31, 0, 0) :: St) A6 := by
    intro c L L2 St
    rw [← hB5]
    rw [hA6]
    exact ev_nar (m := 7) (pc' := 28) i6_26 rfl (by decide) (by decide) v5.2.2.1 t6 rfl
  have u6 : mdN (fun x : OId => x = (31, 0, 0)) B5 A6 [(31, 0, 0)] 1 7 := by
    rw [hA6]
    exact md_al v5.2.2.1 t6 rfl
  have v6 : mdN (fun x : OId => x = (8, 0, 0) ∨ x = (7, 8, 0) ∨ x = (22, 8, 0) ∨ x = (23, 8, 0) ∨ x = (24, 8, 0) ∨ x = (30, 0, 0) ∨ x = (31, 0, 0) ∨ x = (32, 0, 0)) S A6 ((([(7, 8, 0)] ++ plN 8) ++ [(30, 0, 0)]) ++ [(31, 0, 0)]) 6 25 := v5.tr (u6.wk (fun x hx => by rw [hx]; exact p3))
  obtain ⟨B7, hB7⟩ : ∃ B7 : SS, B7 = (A6.1, A6.2.1, setV A6.2.2.1 (8, 0, 0) 3 (aR (31, 0, 0)), A6.2.2.2) := ⟨_, rfl⟩
  have u7 : mdN (fun x : OId => x = (8, 0, 0)) A6 B7 [] 0 0 := by
    rw [hB7]
    exact ⟨fun x hx => ⟨rfl, rfl, (setV_o (fun q => hx q))⟩, rfl, v6.2.2.1, Nat.le_refl _, rfl, rfl, rfl, fun _ q => Or.inl q⟩
  have v7 : mdN (fun x : OId => x = (8, 0, 0) ∨ x = (7, 8, 0) ∨ x = (22, 8, 0) ∨ x = (23, 8, 0) ∨ x = (24, 8, 0) ∨ x = (30, 0, 0) ∨ x = (31, 0, 0) ∨ x = (32, 0, 0)) S B7 ((([(7, 8, 0)] ++ plN 8) ++ [(30, 0, 0)]) ++ [(31, 0, 0)]) 6 25 := v6.tr (u7.wk (fun x hx => by rcases hx with rfl; exact p1))
  obtain ⟨A8, hA8⟩ : ∃ A8 : SS, A8 = mk B7 (32, 0, 0) (nq B7) (ns) 2451 := ⟨_, rfl⟩
  have t8 : nms B7 = (32, 0, 0) :: ns := by
    have h9 := v7.2.1
    rw [hn] at h9
    simpa using h9.symm
  have x8 : ∀ (c : Nat → List AV → SS → Option Out) (L : List (Option AV)) (L2 : List (Nat × AV)) (St : List AV), ev c 6 35 L L2 (aI 2451 :: St) (A6.1, A6.2.1, setV A6.2.2.1 (8, 0, 0) 3 (aR (31, 0, 0)), A6.2.2.2) = ev c 6 37 L L2 (aR (32, 0, 0) :: St) A8 := by
    intro c L L2 St
    rw [← hB7]
    rw [hA8]
    exact ev_nar (m := 2451) (pc' := 37) i6_35 rfl (by decide) (by decide) v7.2.2.1 t8 rfl
  have u8 : mdN (fun x : OId => x = (32, 0, 0)) B7 A8 [(32, 0, 0)] 1 2451 := by
    rw [hA8]
    exact md_al v7.2.2.1 t8 rfl
  have v8 : mdN (fun x : OId => x = (8, 0, 0) ∨ x = (7, 8, 0) ∨ x = (22, 8, 0) ∨ x = (23, 8, 0) ∨ x = (24, 8, 0) ∨ x = (30, 0, 0) ∨ x = (31, 0, 0) ∨ x = (32, 0, 0)) S A8 (((([(7, 8, 0)] ++ plN 8) ++ [(30, 0, 0)]) ++ [(31, 0, 0)]) ++ [(32, 0, 0)]) 7 2476 := v7.tr (u8.wk (fun x hx => by rw [hx]; exact p4))
  obtain ⟨B9, hB9⟩ : ∃ B9 : SS, B9 = (setI (setI A8.1 (8, 0, 0) 5 255) (8, 0, 0) 6 (-1), A8.2.1, setV (setV A8.2.2.1 (8, 0, 0) 4 (aR (32, 0, 0))) (8, 0, 0) 0 (aR (6, 0, 0)), A8.2.2.2) := ⟨_, rfl⟩
  have u9 : mdN (fun x : OId => x = (8, 0, 0)) A8 B9 [] 0 0 := by
    rw [hB9]
    exact ⟨fun x hx => ⟨((setI_o (fun q => hx q)).trans (setI_o (fun q => hx q))), rfl, ((setV_o (fun q => hx q)).trans (setV_o (fun q => hx q)))⟩, rfl, v8.2.2.1, Nat.le_refl _, rfl, rfl, rfl, fun _ q => Or.inl q⟩
  have v9 : mdN (fun x : OId => x = (8, 0, 0) ∨ x = (7, 8, 0) ∨ x = (22, 8, 0) ∨ x = (23, 8, 0) ∨ x = (24, 8, 0) ∨ x = (30, 0, 0) ∨ x = (31, 0, 0) ∨ x = (32, 0, 0)) S B9 (((([(7, 8, 0)] ++ plN 8) ++ [(30, 0, 0)]) ++ [(31, 0, 0)]) ++ [(32, 0, 0)]) 7 2476 := v8.tr (u9.wk (fun x hx => by rcases hx with rfl; exact p1))
  refine ⟨B9, ?_, v9, ?_, ?_, ?_, ?_, ?_, ?_, ?_, ?_⟩
  · simp only [m6, s6_0, s6_1, s6_4, s6_8, s6_9, s6_12, s6_15, s6_16, s6_20, s6_23, s6_24, s6_28, s6_31, s6_32, s6_37, s6_40, s6_41, s6_44, s6_47, s6_48, s6_49, s6_52, s6_53, s6_54, s6_57, x1, x2, x4, x6, x8, if_false, if_true, ck_v, ck_x, Option.toList, List.cons_append, List.nil_append, kil_nil, N_1, o10, o00, exN_0, exN_1, exN_2, exN_3, exN_4, exN_5, Ex]
    rw [hB9]
  · skip
    (try simp only [hB9, hA8, hB7, hA6, hB5, hA4, hB3, g2_1, g2_0, hA1]) <;> (try simp [mk, setRow, setRowV, setI, setV, b2, c2, d2, hB9, hA8, hB7, hA6, hB5, hA4, hB3, g2_1, g2_0, hA1])
  · skip
    (try simp only [hB9, hA8, hB7, hA6, hB5, hA4, hB3, g2_1, g2_0, hA1]) <;> (try simp [mk, setRow, setRowV, setI, setV, b2, c2, d2, hB9, hA8, hB7, hA6, hB5, hA4, hB3, g2_1, g2_0, hA1])
  · skip
    (try simp only [hB9, hA8, hB7, hA6, hB5, hA4, hB3, g2_1, g2_0, hA1]) <;> (try simp [mk, setRow, setRowV, setI, setV, b2, c2, d2, hB9, hA8, hB7, hA6, hB5, hA4, hB3, g2_1, g2_0, hA1])
  · skip
    (try simp only [hB9, hA8, hB7, hA6, hB5, hA4, hB3, g2_1, g2_0, hA1]) <;> (try simp [mk, setRow, setRowV, setI, setV, b2, c2, d2, hB9, hA8, hB7, hA6, hB5, hA4, hB3, g2_1, g2_0, hA1])
  · skip
    (try simp only [hB9, hA8, hB7, hA6, hB5, hA4, hB3, g2_1, g2_0, hA1]) <;> (try simp [mk, setRow, setRowV, setI, setV, b2, c2, d2, hB9, hA8, hB7, hA6, hB5, hA4, hB3, g2_1, g2_0, hA1])
  · skip
    (try simp only [hB9, hA8, hB7, hA6, hB5, hA4, hB3, g2_1, g2_0, hA1]) <;> (try simp [mk, setRow, setRowV, setI, setV, b2, c2, d2, hB9, hA8, hB7, hA6, hB5, hA4, hB3, g2_1, g2_0, hA1])
  · skip
    (try simp only [hB9, hA8, hB7, hA6, hB5, hA4, hB3, g2_1, g2_0, hA1]) <;> (try simp [mk, setRow, setRowV, setI, setV, b2, c2, d2, hB9, hA8, hB7, hA6, hB5, hA4, hB3, g2_1, g2_0, hA1])
  · skip
    (try simp only [hB9, hA8, hB7, hA6, hB5, hA4, hB3, g2_1, g2_0, hA1]) <;> (try simp [mk, setRow, setRowV, setI, setV, b2, c2, d2, hB9, hA8, hB7, hA6, hB5, hA4, hB3, g2_1, g2_0, hA1])

theorem k1h {d : Nat} {S : SS} {ns : List OId} {j : Nat} (hW : namW S) (hn : nms S = (20, j, 0) :: (10, j, 7) :: (21, j, 0) :: (7, j, 0) :: (plN j ++ (ns)))  : ∃ S', evm (d + 3) 1 [aR (4, j, 0)] S = ev (evm (d + 2)) 1 88 [some (aR (4, j, 0)), some (aI 0)] [] [] S' ∧ mdN (PBk j) S S' ([(20, j, 0), (10, j, 7), (21, j, 0), (7, j, 0)] ++ plN j) 7 73 ∧ S'.1 (4, j, 0) 0 = 10 ∧ S'.1 (4, j, 0) 1 = 20 ∧ S'.1 (4, j, 0) 2 = 40 ∧ S'.1 (4, j, 0) 3 = 0 ∧ S'.1 (4, j, 0) 4 = -1 ∧ S'.1 (4, j, 0) 5 = 0 ∧ S'.1 (4, j, 0) 6 = 0 ∧ S'.1 (4, j, 0) 7 = 0 ∧ S'.1 (7, j, 0) 0 = -1 ∧ (∀ f, S'.1 (21, j, 0) f = 0) ∧ S'.2.2.1 (4, j, 0) 8 = aR (20, j, 0) ∧ S'.2.2.1 (4, j, 0) 9 = aR (10, j, 7) ∧ S'.2.2.1 (4, j, 0) 10 = aR (21, j, 0) ∧ S'.2.2.1 (4, j, 0) 11 = aR (7, j, 0) ∧ S'.2.2.1 (7, j, 0) 2 = aR (22, j, 0) ∧ S'.2.2.1 (7, j, 0) 3 = aR (23, j, 0) ∧ S'.2.2.1 (7, j, 0) 4 = aR (24, j, 0) := by
  have p0 : (PBk j) (4, j, 0) := by first | exact Or.inr rfl | exact Or.inl ⟨rfl, by simp⟩
  have p1 : (PBk j) (20, j, 0) := by first | exact Or.inr rfl | exact Or.inl ⟨rfl, by simp⟩
  have p2 : (PBk j) (10, j, 7) := by first | exact Or.inr rfl | exact Or.inl ⟨rfl, by simp⟩
  have p3 : (PBk j) (21, j, 0) := by first | exact Or.inr rfl | exact Or.inl ⟨rfl, by simp⟩
  have p4 : (PBk j) (7, j, 0) := by first | exact Or.inr rfl | exact Or.inl ⟨rfl, by simp⟩
  have w0 : mdN (PBk j) S S [] 0 0 := mdN.rf hW
  obtain ⟨B1, hB1⟩ : ∃ B1 : SS, B1 = (setI (setI (setI (setI (setI (setI (setI (setI S.1 (4, j, 0) 0 10) (4, j, 0) 1 20) (4, j, 0) 2 40) (4, j, 0) 3 0) (4, j, 0) 4 (-1)) (4, j, 0) 5 0) (4, j, 0) 6 0) (4, j, 0) 7 0, S.2) := ⟨_, rfl⟩
  have u1 : mdN (fun x : OId => x = (4, j, 0)) S B1 [] 0 0 := by
    rw [hB1]
    exact ⟨fun x hx => ⟨((setI_o (fun q => hx q)).trans ((setI_o (fun q => hx q)).trans ((setI_o (fun q => hx q)).trans ((setI_o (fun q => hx q)).trans ((setI_o (fun q => hx q)).trans ((setI_o (fun q => hx q)).trans ((setI_o (fun q => hx q)).trans (setI_o (fun q => hx q))))))))), rfl, rfl⟩, rfl, w0.2.2.1, Nat.le_refl _, rfl, rfl, rfl, fun _ q => Or.inl q⟩
  have v1 : mdN (PBk j) S B1 [] 0 0 := w0.tr (u1.wk (fun x hx => by rcases hx with rfl; exact p0))
  obtain ⟨A2, hA2⟩ : ∃ A2 : SS, A2 = mk B1 (20, j, 0) (nq B1) ((10, j, 7) :: (21, j, 0) :: (7, j, 0) :: (plN j ++ (ns))) 7 := ⟨_, rfl⟩
  have t2 : nms B1 = (20, j, 0) :: (10, j, 7) :: (21, j, 0) :: (7, j, 0) :: (plN j ++ (ns)) := by
    have h9 := v1.2.1
    rw [hn] at h9
    simpa using h9.symm
  have x2 : ∀ (c : Nat → List AV → SS → Option Out) (L : List (Option AV)) (L2 : List (Nat × AV)) (St : List AV), ev c 1 50 L L2 (aI 7 :: St) (setI (setI (setI (setI (setI (setI (setI (setI S.1 (4, j, 0) 0 10) (4, j, 0) 1 20) (4, j, 0) 2 40) (4, j, 0) 3 0) (4, j, 0) 4 (-1)) (4, j, 0) 5 0) (4, j, 0) 6 0) (4, j, 0) 7 0, S.2) = ev c 1 53 L L2 (aR (20, j, 0) :: St) A2 := by
    intro c L L2 St
    rw [← hB1]
    rw [hA2]
    exact ev_anw (m := 7) (pc' := 53) i1_50 rfl (by decide) v1.2.2.1 t2 rfl
  have u2 : mdN (fun x : OId => x = (20, j, 0)) B1 A2 [(20, j, 0)] 1 7 := by
    rw [hA2]
    exact md_al v1.2.2.1 t2 rfl
  have v2 : mdN (PBk j) S A2 [(20, j, 0)] 1 7 := v1.tr (u2.wk (fun x hx => by rw [hx]; exact p1))
  obtain ⟨B3, hB3⟩ : ∃ B3 : SS, B3 = (A2.1, A2.2.1, setV A2.2.2.1 (4, j, 0) 8 (aR (20, j, 0)), A2.2.2.2) := ⟨_, rfl⟩
  have u3 : mdN (fun x : OId => x = (4, j, 0)) A2 B3 [] 0 0 := by
    rw [hB3]
    exact ⟨fun x hx => ⟨rfl, rfl, (setV_o (fun q => hx q))⟩, rfl, v2.2.2.1, Nat.le_refl _, rfl, rfl, rfl, fun _ q => Or.inl q⟩
  have v3 : mdN (PBk j) S B3 [(20, j, 0)] 1 7 := v2.tr (u3.wk (fun x hx => by rcases hx with rfl; exact p0))
  obtain ⟨A4, hA4⟩ : ∃ A4 : SS, A4 = mk B3 (10, j, 7) (nq B3) ((21, j, 0) :: (7, j, 0) :: (plN j ++ (ns))) 6 := ⟨_, rfl⟩
  have t4 : nms B3 = (10, j, 7) :: (21, j, 0) :: (7, j, 0) :: (plN j ++ (ns)) := by
    have h9 := v3.2.1
    rw [hn] at h9
    simpa using h9.symm
  have x4 : ∀ (c : Nat → List AV → SS → Option Out) (L : List (Option AV)) (L2 : List (Nat × AV)) (St : List AV), ev c 1 57 L L2 (St) (A2.1, A2.2.1, setV A2.2.2.1 (4, j, 0) 8 (aR (20, j, 0)), A2.2.2.2) = ev c 1 60 L L2 (aR (10, j, 7) :: St) A4 := by
    intro c L L2 St
    rw [← hB3]
    rw [hA4]
    exact ev_nw (pc' := 60) i1_57 rfl rfl v3.2.2.1 t4 rfl
  have u4 : mdN (fun x : OId => x = (10, j, 7)) B3 A4 [(10, j, 7)] 1 6 := by
    rw [hA4]
    exact md_al v3.2.2.1 t4 rfl
  have v4 : mdN (PBk j) S A4 [(20, j, 0), (10, j, 7)] 2 13 := v3.tr (u4.wk (fun x hx => by rw [hx]; exact p2))
  obtain ⟨B5, hB5⟩ : ∃ B5 : SS, B5 = (A4.1, A4.2.1, setV A4.2.2.1 (4, j, 0) 9 (aR (10, j, 7)), A4.2.2.2) := ⟨_, rfl⟩
  have u5 : mdN (fun x : OId => x = (4, j, 0)) A4 B5 [] 0 0 := by
    rw [hB5]
    exact ⟨fun x hx => ⟨rfl, rfl, (setV_o (fun q => hx q))⟩, rfl, v4.2.2.1, Nat.le_refl _, rfl, rfl, rfl, fun _ q => Or.inl q⟩
  have v5 : mdN (PBk j) S B5 [(20, j, 0), (10, j, 7)] 2 13 := v4.tr (u5.wk (fun x hx => by rcases hx with rfl; exact p0))
  obtain ⟨A6, hA6⟩ : ∃ A6 : SS, A6 = mk B5 (21, j, 0) (nq B5) ((7, j, 0) :: (plN j ++ (ns))) 49 := ⟨_, rfl⟩
  have t6 : nms B5 = (21, j, 0) :: (7, j, 0) :: (plN j ++ (ns)) := by
    have h9 := v5.2.1
    rw [hn] at h9
    simpa using h9.symm
  have x6 : ∀ (c : Nat → List AV → SS → Option Out) (L : List (Option AV)) (L2 : List (Nat × AV)) (St : List AV), ev c 1 70 L L2 (aI 49 :: St) (A4.1, A4.2.1, setV A4.2.2.1 (4, j, 0) 9 (aR (10, j, 7)), A4.2.2.2) = ev c 1 72 L L2 (aR (21, j, 0) :: St) A6 := by
    intro c L L2 St
    rw [← hB5]
    rw [hA6]
    exact ev_nar (m := 49) (pc' := 72) i1_70 rfl (by decide) (by decide) v5.2.2.1 t6 rfl
  have u6 : mdN (fun x : OId => x = (21, j, 0)) B5 A6 [(21, j, 0)] 1 49 := by
    rw [hA6]
    exact md_al v5.2.2.1 t6 rfl
  have v6 : mdN (PBk j) S A6 [(20, j, 0), (10, j, 7), (21, j, 0)] 3 62 := v5.tr (u6.wk (fun x hx => by rw [hx]; exact p3))
  obtain ⟨B7, hB7⟩ : ∃ B7 : SS, B7 = (A6.1, A6.2.1, setV A6.2.2.1 (4, j, 0) 10 (aR (21, j, 0)), A6.2.2.2) := ⟨_, rfl⟩
  have u7 : mdN (fun x : OId => x = (4, j, 0)) A6 B7 [] 0 0 := by
    rw [hB7]
    exact ⟨fun x hx => ⟨rfl, rfl, (setV_o (fun q => hx q))⟩, rfl, v6.2.2.1, Nat.le_refl _, rfl, rfl, rfl, fun _ q => Or.inl q⟩
  have v7 : mdN (PBk j) S B7 [(20, j, 0), (10, j, 7), (21, j, 0)] 3 62 := v6.tr (u7.wk (fun x hx => by rcases hx with rfl; exact p0))
  obtain ⟨A8, hA8⟩ : ∃ A8 : SS, A8 = mk B7 (7, j, 0) (nq B7) (plN j ++ (ns)) 5 := ⟨_, rfl⟩
  have t8 : nms B7 = (7, j, 0) :: (plN j ++ (ns)) := by
    have h9 := v7.2.1
    rw [hn] at h9
    simpa using h9.symm
  have x8 : ∀ (c : Nat → List AV → SS → Option Out) (L : List (Option AV)) (L2 : List (Nat × AV)) (St : List AV), ev c 1 76 L L2 (St) (A6.1, A6.2.1, setV A6.2.2.1 (4, j, 0) 10 (aR (21, j, 0)), A6.2.2.2) = ev c 1 79 L L2 (aR (7, j, 0) :: St) A8 := by
    intro c L L2 St
    rw [← hB7]
    rw [hA8]
    exact ev_nw (pc' := 79) i1_76 rfl rfl v7.2.2.1 t8 rfl
  have u8 : mdN (fun x : OId => x = (7, j, 0)) B7 A8 [(7, j, 0)] 1 5 := by
    rw [hA8]
    exact md_al v7.2.2.1 t8 rfl
  have v8 : mdN (PBk j) S A8 [(20, j, 0), (10, j, 7), (21, j, 0), (7, j, 0)] 4 67 := v7.tr (u8.wk (fun x hx => by rw [hx]; exact p4))
  have t9 : nms A8 = plN j ++ (ns) := by
    have h9 := v8.2.1
    rw [hn] at h9
    simpa using h9.symm
  obtain ⟨C9, x9, u9, a9, b9, c9, d9⟩ := k3' (d := d) (j := j) v8.2.2.1 t9
  have v9 : mdN (PBk j) S C9 ([(20, j, 0), (10, j, 7), (21, j, 0), (7, j, 0)] ++ plN j) 7 73 := v8.tr (u9.wk (fun x hx => by rcases hx with h | h | h | h <;> rw [h] <;> first | exact Or.inl ⟨rfl, by simp⟩ | (simp; done)))
  have g9_0 : C9.2.2.1 (4, j, 0) = A8.2.2.1 (4, j, 0) := (u9.1 (4, j, 0) (by simp [PBk, inBk])).2.2
  have g9_1 : C9.1 (4, j, 0) = A8.1 (4, j, 0) := (u9.1 (4, j, 0) (by simp [PBk, inBk])).1
  have g9_2 : C9.1 (21, j, 0) = A8.1 (21, j, 0) := (u9.1 (21, j, 0) (by simp [PBk, inBk])).1
  obtain ⟨B10, hB10⟩ : ∃ B10 : SS, B10 = (C9.1, C9.2.1, setV C9.2.2.1 (4, j, 0) 11 (aR (7, j, 0)), C9.2.2.2) := ⟨_, rfl⟩
  have u10 : mdN (fun x : OId => x = (4, j, 0)) C9 B10 [] 0 0 := by
    rw [hB10]
    exact ⟨fun x hx => ⟨rfl, rfl, (setV_o (fun q => hx q))⟩, rfl, v9.2.2.1, Nat.le_refl _, rfl, rfl, rfl, fun _ q => Or.inl q⟩
  have v10 : mdN (PBk j) S B10 ([(20, j, 0), (10, j, 7), (21, j, 0), (7, j, 0)] ++ plN j) 7 73 := v9.tr (u10.wk (fun x hx => by rcases hx with rfl; exact p0))
  refine ⟨B10, ?_, v10, ?_, ?_, ?_, ?_, ?_, ?_, ?_, ?_, ?_, ?_, ?_, ?_, ?_, ?_, ?_, ?_, ?_⟩
  · simp only [m1, s1_0, s1_1, s1_4, s1_5, s1_7, s1_10, s1_11, s1_13, s1_16, s1_17, s1_19, s1_22, s1_23, s1_24, s1_27, s1_28, s1_29, s1_32, s1_33, s1_34, s1_37, s1_38, s1_39, s1_42, s1_43, s1_44, s1_47, s1_48, s1_53, s1_56, s1_60, s1_61, s1_64, s1_67, s1_68, s1_72, s1_75, s1_79, s1_80, s1_83, s1_86, s1_87, k2, x2, x4, x6, x8, x9, if_false, if_true, ck_v, ck_x, Option.toList, List.cons_append, List.nil_append, kil_nil, N_1, o10, o00, exN_0, exN_1, exN_2, exN_3, exN_4, exN_5, Ex]
    rw [hB10]
  · skip
    (try simp only [hB10, g9_2, g9_1, g9_0, hA8, hB7, hA6, hB5, hA4, hB3, hA2, hB1]) <;> (try simp [mk, setRow, setRowV, setI, setV, a9, b9, c9, d9, hB10, g9_2, g9_1, g9_0, hA8, hB7, hA6, hB5, hA4, hB3, hA2, hB1])
  · skip
    (try simp only [hB10, g9_2, g9_1, g9_0, hA8, hB7, hA6, hB5, hA4, hB3, hA2, hB1]) <;> (try simp [mk, setRow, setRowV, setI, setV, a9, b9, c9, d9, hB10, g9_2, g9_1, g9_0, hA8, hB7, hA6, hB5, hA4, hB3, hA2, hB1])
  · skip
    (try simp only [hB10, g9_2, g9_1, g9_0, hA8, hB7, hA6, hB5, hA4, hB3, hA2, hB1]) <;> (try simp [mk, setRow, setRowV, setI, setV, a9, b9, c9, d9, hB10, g9_2, g9_1, g9_0, hA8, hB7, hA6, hB5, hA4, hB3, hA2, hB1])
  · skip
    (try simp only [hB10, g9_2, g9_1, g9_0, hA8, hB7, hA6, hB5, hA4, hB3, hA2, hB1]) <;> (try simp [mk, setRow, setRowV, setI, setV, a9, b9, c9, d9, hB10, g9_2, g9_1, g9_0, hA8, hB7, hA6, hB5, hA4, hB3, hA2, hB1])
  · skip
    (try simp only [hB10, g9_2, g9_1, g9_0, hA8, hB7, hA6, hB5, hA4, hB3, hA2, hB1]) <;> (try simp [mk, setRow, setRowV, setI, setV, a9, b9, c9, d9, hB10, g9_2, g9_1, g9_0, hA8, hB7, hA6, hB5, hA4, hB3, hA2, hB1])
  · skip
    (try simp only [hB10, g9_2, g9_1, g9_0, hA8, hB7, hA6, hB5, hA4, hB3, hA2, hB1]) <;> (try simp [mk, setRow, setRowV, setI, setV, a9, b9, c9, d9, hB10, g9_2, g9_1, g9_0, hA8, hB7, hA6, hB5, hA4, hB3, hA2, hB1])
  · skip
    (try simp only [hB10, g9_2, g9_1, g9_0, hA8, hB7, hA6, hB5, hA4, hB3, hA2, hB1]) <;> (try simp [mk, setRow, setRowV, setI, setV, a9, b9, c9, d9, hB10, g9_2, g9_1, g9_0, hA8, hB7, hA6, hB5, hA4, hB3, hA2, hB1])
  · skip
    (try simp only [hB10, g9_2, g9_1, g9_0, hA8, hB7, hA6, hB5, hA4, hB3, hA2, hB1]) <;> (try simp [mk, setRow, setRowV, setI, setV, a9, b9, c9, d9, hB10, g9_2, g9_1, g9_0, hA8, hB7, hA6, hB5, hA4, hB3, hA2, hB1])
  · skip
    (try simp only [hB10, g9_2, g9_1, g9_0, hA8, hB7, hA6, hB5, hA4, hB3, hA2, hB1]) <;> (try simp [mk, setRow, setRowV, setI, setV, a9, b9, c9, d9, hB10, g9_2, g9_1, g9_0, hA8, hB7, hA6, hB5, hA4, hB3, hA2, hB1])
  · intro f
    (try simp only [hB10, g9_2, g9_1, g9_0, hA8, hB7, hA6, hB5, hA4, hB3, hA2, hB1]) <;> (try simp [mk, setRow, setRowV, setI, setV, a9, b9, c9, d9, hB10, g9_2, g9_1, g9_0, hA8, hB7, hA6, hB5, hA4, hB3, hA2, hB1])
  · skip
    (try simp only [hB10, g9_2, g9_1, g9_0, hA8, hB7, hA6, hB5, hA4, hB3, hA2, hB1]) <;> (try simp [mk, setRow, setRowV, setI, setV, a9, b9, c9, d9, hB10, g9_2, g9_1, g9_0, hA8, hB7, hA6, hB5, hA4, hB3, hA2, hB1])
  · skip
    (try simp only [hB10, g9_2, g9_1, g9_0, hA8, hB7, hA6, hB5, hA4, hB3, hA2, hB1]) <;> (try simp [mk, setRow, setRowV, setI, setV, a9, b9, c9, d9, hB10, g9_2, g9_1, g9_0, hA8, hB7, hA6, hB5, hA4, hB3, hA2, hB1])
  · skip
    (try simp only [hB10, g9_2, g9_1, g9_0, hA8, hB7, hA6, hB5, hA4, hB3, hA2, hB1]) <;> (try simp [mk, setRow, setRowV, setI, setV, a9, b9, c9, d9, hB10, g9_2, g9_1, g9_0, hA8, hB7, hA6, hB5, hA4, hB3, hA2, hB1])
  · skip
    (try simp only [hB10, g9_2, g9_1, g9_0, hA8, hB7, hA6, hB5, hA4, hB3, hA2, hB1]) <;> (try simp [mk, setRow, setRowV, setI, setV, a9, b9, c9, d9, hB10, g9_2, g9_1, g9_0, hA8, hB7, hA6, hB5, hA4, hB3, hA2, hB1])
  · skip
    (try simp only [hB10, g9_2, g9_1, g9_0, hA8, hB7, hA6, hB5, hA4, hB3, hA2, hB1]) <;> (try simp [mk, setRow, setRowV, setI, setV, a9, b9, c9, d9, hB10, g9_2, g9_1, g9_0, hA8, hB7, hA6, hB5, hA4, hB3, hA2, hB1])
  · skip
    (try simp only [hB10, g9_2, g9_1, g9_0, hA8, hB7, hA6, hB5, hA4, hB3, hA2, hB1]) <;> (try simp [mk, setRow, setRowV, setI, setV, a9, b9, c9, d9, hB10, g9_2, g9_1, g9_0, hA8, hB7, hA6, hB5, hA4, hB3, hA2, hB1])
  · skip
    (try simp only [hB10, g9_2, g9_1, g9_0, hA8, hB7, hA6, hB5, hA4, hB3, hA2, hB1]) <;> (try simp [mk, setRow, setRowV, setI, setV, a9, b9, c9, d9, hB10, g9_2, g9_1, g9_0, hA8, hB7, hA6, hB5, hA4, hB3, hA2, hB1])

