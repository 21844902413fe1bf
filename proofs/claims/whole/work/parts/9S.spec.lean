/-! THE LAW: its start, its loop, its end -/
def law0 : List OId := (11, 0, 0) :: (ofcNm ++ ((12, 0, 0) :: modN))
def bk00 (p : Nat → Int32) : Bk := (((10, 20, 40), 0, (fun _ _ => 0), (fun _ => false), (fun _ _ => 0)), (0, 0, 0, 0), -1, p)
set_option maxRecDepth 100000 in
theorem law0_nd : law0.Nodup := by decide +kernel
set_option maxRecDepth 100000 in
theorem law0_ok : ∀ o, o ∈ law0 → isRo o = false ∧ ¬ (o.1 < 2 ∧ o.2.2 = 2) ∧ o.1 ≠ 60 ∧ o.1 ≠ 42 ∧ o.1 ≠ 43 ∧ kOf o ≠ .inl 3 := by decide +kernel
theorem bkR_all {R : OId → Nat → AV} (h0 : bkR R 0) (h7 : bkR R 7) (hh : hisRf R) : ∀ j, j < 8 → bkR R j := fun j hj => by
  by_cases h : j = 0
  · rw [h]
    exact h0
  · by_cases h' : j = 7
    · rw [h']
      exact h7
    · have h9 := (hh (j - 1) (by omega)).2
      have e : j - 1 + 1 = j := by omega
      rw [e] at h9
      exact h9
theorem rf_of {R M : OId → Nat → AV} {I : OId → Nat → Int32} (h0 : bkR R 0) (h7 : bkR R 7) (hh : hisRf R) (h5 : hs5 R I) (hn : netRf R) (hs : serRf R) (hp : spaRf R M) (ho : R (11, 0, 0) 0 = aR (4, 0, 0) ∧ R (11, 0, 0) 1 = aR (5, 0, 0) ∧ R (11, 0, 0) 2 = aR (4, 7, 0) ∧ R (11, 0, 0) 4 = aR (8, 0, 0) ∧ R (11, 0, 0) 5 = aR (9, 0, 0) ∧ R (11, 0, 0) 6 = aR (1, 0, 0)) (hm : R (12, 0, 0) 0 = aR (35, 0, 0) ∧ R (12, 0, 0) 1 = aR (36, 0, 0) ∧ R (12, 0, 0) 2 = aR (37, 0, 0) ∧ R (12, 0, 0) 3 = aR (38, 0, 0) ∧ R (12, 0, 0) 4 = aR (39, 0, 0) ∧ R (12, 0, 0) 5 = aR (40, 0, 0) ∧ R (12, 0, 0) 6 = aR (41, 0, 0)) : RF R := by
  have hb := bkR_all h0 h7 hh
  refine ⟨ho, fun j hj => (hb j hj).1, fun j hj => ?_, ⟨h5.1, fun i hi => (hh i hi).1⟩, hn, hs.1, hp.1, hm⟩
  by_cases h : j = 8
  · rw [h]
    exact hs.2
  · exact (hb j (by omega)).2
section LAW
variable {d L : Nat} {xs : Nat → Int32} {S : SS}
theorem ev_nad {c : Nat → List AV → SS → Option Out} {M pc pc' n : Nat} {LL : List (Option AV)} {L2 : List (Nat × AV)} {St : List AV} {r : Nat × Nat × Nat × Nat} {z : Int} {t : ArrayType} {o : OId} (h : insAt M pc = some (.newarray t, n, r, z)) (hp : pc + 2 = pc') (ht : arT t ≠ .byte) (hn : nms S = []) (ho : dfO (arT t) = o) (hk : kOf o = .inr (arT t, 1)) (hr : isRo o = false) (h2 : 2 ≤ o.1) (h6 : o.1 ≠ 60) (hl : o ∉ S.2.2.2.1) : ev c M pc LL L2 (aI 1 :: St) S = ev c M pc' LL L2 (aR o :: St) (mk S o (nq S) [] 1) := by
  subst hp
  subst ho
  refine ev_go h ?_
  have hok : nmOk S (dfO (arT t)) (.inr (arT t, 1)) = true := by
    have g2 : ¬ ((dfO (arT t)).1 < 2 ∧ (dfO (arT t)).2.2 = 2) := fun q => by omega
    unfold nmOk
    rw [decide_eq_true hk, hr, decide_eq_true g2, decide_eq_true h6, decide_eq_true hl]
    rfl
  have e : mkA S (arT t) 1 = some (dfO (arT t), mk S (dfO (arT t)) (nq S) [] 1) := by
    unfold mkA
    rw [if_neg ht, show S.2.2.2.2.2.1 = [] from hn]
    exact if_pos hok
  have h1 : ¬ ((1 : Int32) < 0 ∨ 65536 < (1 : Int32).toNatClampNeg) := by decide
  show (if (1 : Int32) < 0 ∨ 65536 < (1 : Int32).toNatClampNeg then none else match mkA S (arT t) (1 : Int32).toNatClampNeg with | some (o, S') => nx (pc + 2) LL L2 (aR o :: St) S' | none => none) = _
  rw [if_neg h1, show (1 : Int32).toNatClampNeg = 1 from rfl, e]
  rfl
theorem start_ok : ∃ S9 p, evm (d + 21) 311 [aR (44, L, 0)] (S00 law0 xs) = ev (evm (d + 20)) 311 28 [some (aR (44, L, 0)), some (aR (11, 0, 0)), some (aR (12, 0, 0)), some (aR (42, 0, 0)), some (aR (43, 0, 0)), some (aI (N 0)), none, none] [] [] S9 ∧ lawI 0 xs S9 (bk00 p) [] none := by
  obtain ⟨S0, hS0⟩ : ∃ S0 : SS, S0 = S00 law0 xs := ⟨_, rfl⟩
  have hW0 : namW S0 := by
    rw [hS0]
    exact ⟨law0_nd, fun o ho => ⟨List.not_mem_nil, (law0_ok o ho).1, (law0_ok o ho).2.1, (law0_ok o ho).2.2.1⟩⟩
  have hn0 : nms S0 = (11, 0, 0) :: (ofcNm ++ ((12, 0, 0) :: modN)) := by
    rw [hS0]
    rfl
  have hl0 : S0.2.2.2.1 = [] := by
    rw [hS0]
    rfl
  have hc0 : cel S0 = 0 := by
    rw [hS0]
    rfl
  have hs0 : slo S0 = 0 := by
    rw [hS0]
    rfl
  have hx0 : xsS S0 = xs := by
    rw [hS0]
    rfl
  rw [← hS0]
  -- the office
  obtain ⟨S1, hS1⟩ : ∃ S1 : SS, S1 = mk S0 (11, 0, 0) (nq S0) (ofcNm ++ ((12, 0, 0) :: modN)) 7 := ⟨_, rfl⟩
  have x1 : ∀ (c : Nat → List AV → SS → Option Out) (LL : List (Option AV)) (L2 : List (Nat × AV)) (St : List AV), ev c 311 0 LL L2 St S0 = ev c 311 3 LL L2 (aR (11, 0, 0) :: St) S1 := by
    intro c LL L2 St
    rw [hS1]
    exact ev_nw (pc' := 3) i311_0 rfl rfl hW0 hn0 rfl
  have m1 : mdN (fun _ : OId => True) S0 S1 [(11, 0, 0)] 1 7 := by
    rw [hS1]
    exact md_al hW0 hn0 trivial
  have hn1 : nms S1 = ofcNm ++ ((12, 0, 0) :: modN) := (congrArg (fun T : SS => nms T) hS1).trans rfl
  obtain ⟨S2, k, e2, o1, o2, o3, hT, hk, hW2, hn2, c2, s2, x2, l2⟩ := k0 (d := d + 14) m1.2.2.1 hn1
  -- the model
  obtain ⟨S3, hS3⟩ : ∃ S3 : SS, S3 = mk S2 (12, 0, 0) (nq S2) modN 17 := ⟨_, rfl⟩
  have x3 : ∀ (c : Nat → List AV → SS → Option Out) (LL : List (Option AV)) (L2 : List (Nat × AV)) (St : List AV), ev c 311 8 LL L2 St S2 = ev c 311 11 LL L2 (aR (12, 0, 0) :: St) S3 := by
    intro c LL L2 St
    rw [hS3]
    exact ev_nw (pc' := 11) i311_8 rfl rfl hW2 hn2 rfl
  have m3 : mdN (fun x : OId => x = (12, 0, 0)) S2 S3 [(12, 0, 0)] 1 17 := by
    rw [hS3]
    exact md_al hW2 hn2 rfl
  have hn3 : nms S3 = modN := (congrArg (fun T : SS => nms T) hS3).trans rfl
  have hq3 : nq S3 = nq S2 := (congrArg (fun T : SS => nq T) hS3).trans rfl
  obtain ⟨S4, q, e4, r4, i4, j4, m4, t4, q1, q2, hn4, f4, c4, s4, xx4, l4⟩ := k214 (d := d + 12) m3.2.2.1 hn3
  -- the two arrays
  have live4 : ∀ x, x ∈ S4.2.2.2.1 → x ∈ law0 ∨ x.1 = 60 ∨ x.1 < 2 := fun x hx => by
    have hin : ∀ y, y ∈ ofcNm → y ∈ law0 := fun y hy => List.mem_cons_of_mem _ (List.mem_append_left _ hy)
    have him : ∀ y, y ∈ modN → y ∈ law0 := fun y hy => List.mem_cons_of_mem _ (List.mem_append_right _ (List.mem_cons_of_mem _ hy))
    rcases l4 x hx with g | g | g
    · rcases m3.2.2.2.2.2.2.2 x g with g | g
      · rcases l2 x g with g | g | g
        · rcases m1.2.2.2.2.2.2.2 x g with g | g
          · rw [hl0] at g
            exact absurd g List.not_mem_nil
          · rw [List.mem_singleton.mp g]
            exact Or.inl List.mem_cons_self
        · exact Or.inl (hin x g)
        · exact Or.inr (Or.inl g)
      · rw [List.mem_singleton.mp g]
        exact Or.inl (List.mem_cons_of_mem _ (List.mem_append_right _ List.mem_cons_self))
    · exact Or.inl (him x g)
    · exact Or.inr g
  have nl42 : ((42, 0, 0) : OId) ∉ S4.2.2.2.1 := fun g => by
    rcases live4 _ g with g | g
    · exact (law0_ok _ g).2.2.2.1 rfl
    · simp at g
  have nl43 : ((43, 0, 0) : OId) ∉ S4.2.2.2.1 := fun g => by
    rcases live4 _ g with g | g
    · exact (law0_ok _ g).2.2.2.2.1 rfl
    · simp at g
  obtain ⟨S5, hS5⟩ : ∃ S5 : SS, S5 = mk S4 (42, 0, 0) (nq S4) [] 1 := ⟨_, rfl⟩
  have x5 : ∀ (c : Nat → List AV → SS → Option Out) (LL : List (Option AV)) (L2 : List (Nat × AV)) (St : List AV), ev c 311 17 LL L2 (aI 1 :: St) S4 = ev c 311 19 LL L2 (aR (42, 0, 0) :: St) S5 := by
    intro c LL L2 St
    rw [hS5]
    exact ev_nad (pc' := 19) i311_17 rfl (by decide) hn4 rfl rfl rfl (by decide) (by decide) nl42
  have hn5 : nms S5 = [] := (congrArg (fun T : SS => nms T) hS5).trans rfl
  have hl5 : S5.2.2.2.1 = S4.2.2.2.1 ++ [(42, 0, 0)] := (congrArg (fun T : SS => T.2.2.2.1) hS5).trans rfl
  have nl5 : ((43, 0, 0) : OId) ∉ S5.2.2.2.1 := fun g => by
    rw [hl5] at g
    rcases List.mem_append.mp g with g | g
    · exact nl43 g
    · simp at g
  obtain ⟨S6, hS6⟩ : ∃ S6 : SS, S6 = mk S5 (43, 0, 0) (nq S5) [] 1 := ⟨_, rfl⟩
  have x6 : ∀ (c : Nat → List AV → SS → Option Out) (LL : List (Option AV)) (L2 : List (Nat × AV)) (St : List AV), ev c 311 21 LL L2 (aI 1 :: St) S5 = ev c 311 23 LL L2 (aR (43, 0, 0) :: St) S6 := by
    intro c LL L2 St
    rw [hS6]
    exact ev_nad (pc' := 23) i311_21 rfl (by decide) hn5 rfl rfl rfl (by decide) (by decide) nl5
  -- what stays
  have g6 : ∀ x : OId, x.1 ≠ 42 → x.1 ≠ 43 → S6.1 x = S4.1 x ∧ S6.2.1 x = S4.2.1 x ∧ S6.2.2.1 x = S4.2.2.1 x := fun x h1 h2 => by
    have n5 : x ≠ (42, 0, 0) := fun q => h1 (by rw [q])
    have n6 : x ≠ (43, 0, 0) := fun q => h2 (by rw [q])
    rw [hS6, mk_I n6, mk_M n6, mk_R n6, hS5, mk_I n5, mk_M n5, mk_R n5]
    exact ⟨rfl, rfl, rfl⟩
  have g2 : ∀ x : OId, 4 ≤ x.1 → x.1 ≤ 34 → x.1 ≠ 12 → S6.1 x = S2.1 x ∧ S6.2.1 x = S2.2.1 x ∧ S6.2.2.1 x = S2.2.2.1 x := fun x h1 h2 h3 => by
    obtain ⟨a1, a2, a3⟩ := g6 x (by omega) (by omega)
    obtain ⟨b1, b2, b3⟩ := f4 x (fun q => h3 (by rw [q])) (by omega) (by omega) (by omega)
    obtain ⟨d1, d2, d3⟩ := m3.1 x (fun q => h3 (by rw [q]))
    exact ⟨a1.trans (b1.trans d1), a2.trans (b2.trans d2), a3.trans (b3.trans d3)⟩
  have og := ofc1_fr o1 (fun x h1 h2 h3 _ => g2 x h1 h2 h3)
  obtain ⟨y1, y2, y3, y4, y5, y6, y7, y8⟩ := og
  have e11 := g2 (11, 0, 0) (by simp) (by simp) (by simp)
  have e12 := g6 (12, 0, 0) (by simp) (by simp)
  have e35 := g6 (35, 0, 0) (by simp) (by simp)
  have hRF : RF S6.2.2.1 := rf_of y1 y5 y3 y4 y6 y7 y8 (by rw [e11.2.2]; exact o2) (by rw [e12.2.2]; exact r4)
  have hcel : cel S6 = cel S4 + 2 := by
    rw [hS6, hS5]
    rfl
  have hslo : slo S6 = slo S4 + 2 := by
    rw [hS6, hS5]
    rfl
  have hxs : xsS S6 = xsS S4 := by
    rw [hS6, hS5]
    rfl
  have hnq : nq S6 = nq S4 := by
    rw [hS6, hS5]
    rfl
  have hn6 : nms S6 = [] := by
    rw [hS6]
    rfl
  obtain ⟨p, hp⟩ : ∃ p : Nat → Int32, p = fun x => if x % 3 = 0 then S6.1 (22, 0, 0) (x / 3) else if x % 3 = 1 then S6.1 (23, 0, 0) (x / 3) else S6.1 (24, 0, 0) (x / 3) := ⟨_, rfl⟩
  obtain ⟨⟨b0, b1, b2, b3, b4, b5, b6, b7⟩, bm, bc⟩ := y2
  have hBA : BA S6.1 0 (bk00 p) := by
    refine ⟨⟨⟨b0, b1, b2⟩, b7, Nat.zero_le _, fun k hk => absurd hk (Nat.not_lt_zero _), fun k hk => absurd hk (Nat.not_lt_zero _), fun a b ha => absurd ha (Nat.not_lt_zero _)⟩, b3, by rw [b4]; exact (show (-1 : Int32) + 1 = 0 by decide), b5, b6, bm, fun m hm => ?_, fun a b _ _ _ => bc _⟩
    show S6.1 (22, 0, 0) m = p (3 * m) ∧ S6.1 (23, 0, 0) m = p (3 * m + 1) ∧ S6.1 (24, 0, 0) m = p (3 * m + 2)
    rw [hp]
    refine ⟨?_, ?_, ?_⟩
    · show _ = if 3 * m % 3 = 0 then S6.1 (22, 0, 0) (3 * m / 3) else _
      rw [if_pos (by omega), show 3 * m / 3 = m by omega]
    · show _ = if (3 * m + 1) % 3 = 0 then _ else if (3 * m + 1) % 3 = 1 then S6.1 (23, 0, 0) ((3 * m + 1) / 3) else _
      rw [if_neg (by omega), if_pos (by omega), show (3 * m + 1) / 3 = m by omega]
    · show _ = if (3 * m + 2) % 3 = 0 then _ else if (3 * m + 2) % 3 = 1 then _ else S6.1 (24, 0, 0) ((3 * m + 2) / 3)
      rw [if_neg (by omega), if_neg (by omega), show (3 * m + 2) / 3 = m by omega]
  have hMW : MW (S6.1 (35, 0, 0)) (bk00 p) := by
    rw [e35.1]
    refine ⟨⟨by rw [j4]; rfl, by rw [j4]; rfl, by rw [j4]; rfl⟩, ⟨by rw [j4]; rfl, by rw [j4]; rfl, by rw [j4]; rfl, by rw [j4]; rfl⟩, by rw [j4]; rfl, Nat.zero_le _, by rw [j4]; rfl, fun m hm hb => ?_, fun k hk => absurd hk (Nat.not_lt_zero _), fun k hk => absurd hk (Nat.not_lt_zero _), fun a b ha => absurd ha (Nat.not_lt_zero _)⟩
    exfalso
    have hb' : N m < -1 := hb
    rcases (by omega : m = 0 ∨ m = 1) with rfl | rfl <;> exact absurd hb' (by decide)
  refine ⟨S6, p, ?_, ⟨hRF, ⟨hBA, Nat.zero_le _, ⟨0, by decide, y4.2.1, y4.2.2, fun i b hb => by simp at hb⟩, ?_, fun s hs => by cases hs⟩, ⟨hMW, Nat.zero_le _, ?_, fun i b hb => by simp at hb, ?_, fun s hs => by cases hs⟩⟩, ⟨?_, fun b hb => absurd hb List.not_mem_nil, fun b hb => by cases hb⟩, fun x hx => y8.2 x, ⟨k, 16, q, q + 1, [], ?_, ?_, ?_, ?_, ?_, ?_, ?_, by simp⟩, hn6, ⟨?_, ?_⟩, ?_⟩
  · rw [m311]
    have e2' : evm (d + 20) 0 [aR (11, 0, 0)] S1 = some (.inl none, S2) := e2
    have e4' : evm (d + 20) 214 [aR (12, 0, 0)] S3 = some (.inl none, S4) := e4
    simp only [x1, s311_3, s311_4, e2', s311_7, x3, s311_11, s311_12, e4', s311_15, s311_16, x5, s311_19, s311_20, x6, s311_23, s311_25, s311_26, if_false, if_true, ck_v, ck_x, Option.toList, List.cons_append, List.nil_append, kil_nil, N_1, o10, o00, exN_0, exN_1, exN_2, exN_3, exN_4, exN_5, Ex]
    rfl
  · show bb (S6.1 (11, 0, 0) 3) = _
    rw [e11.1, o3]
    rfl
  · show S6.1 (12, 0, 0) 8 = N 0
    rw [e12.1]
    exact i4.1
  · show bb (S6.1 (12, 0, 0) 15) = _
    rw [e12.1, i4.2]
    rfl
  · refine ⟨⟨⟨10, 20, 40, rfl, rfl, rfl, by decide, by decide, by decide⟩, Nat.zero_le _, fun k hk => absurd hk (Nat.not_lt_zero _), fun a b ha => absurd ha (Nat.not_lt_zero _), fun a b ha => absurd ha (Nat.not_lt_zero _)⟩, ⟨0, Nat.le_refl _, rfl, fun k hk => absurd hk (Nat.not_lt_zero _)⟩, ⟨0, by decide, rfl⟩, fun k hk => absurd hk (Nat.not_lt_zero _), Or.inl rfl⟩
  · obtain ⟨t1, t2, t3, t5, t6, t7⟩ := hT
    have h1 := g6 (1, 0, 0) (by simp) (by simp)
    have h2 := f4 (1, 0, 0) (by simp) (by simp) (by simp) (by simp)
    have h3 := m3.1 (1, 0, 0) (by simp)
    refine ⟨?_, t2, t3, ?_, ?_, fun i hi => absurd hi (Nat.not_lt_zero _)⟩
    · rw [h1.2.1, h2.2.1, h3.2.1]
      exact t1
    · rw [h1.1, h2.1, h3.1]
      exact t5
    · rw [h1.1, h2.1, h3.1]
      exact t6
  · omega
  · rw [e12.2.1]
    exact m4
  · obtain ⟨t1, t2, t3⟩ := t4
    have h1 := g6 (0, q, 2) (by simp) (by simp)
    refine ⟨?_, ?_, fun i hi => absurd hi (Nat.not_lt_zero _)⟩
    · rw [h1.2.1]
      exact t1
    · rw [h1.1]
      exact t2
  · omega
  · omega
  · omega
  · have z1 := m1.2.2.2.2.1
    have z3 := m3.2.2.2.2.1
    omega
  · have z1 := m1.2.2.2.2.2.1
    have z3 := m3.2.2.2.2.2.1
    omega
  · rw [hxs, xx4, m3.2.2.2.2.2.2.1, x2, m1.2.2.2.2.2.2.1, hx0]
theorem and63 (x : Int32) : ∃ m, m < 64 ∧ x &&& 63 = N m := by
  refine ⟨(x &&& 63).toBitVec.toNat, ?_, ?_⟩
  · have h : (x &&& 63).toBitVec = x.toBitVec &&& 63#32 := rfl
    rw [h, BitVec.toNat_and]
    exact Nat.lt_of_le_of_lt Nat.and_le_right (by decide)
  · apply Int32.toBitVec_inj.mp
    show (x &&& 63).toBitVec = BitVec.ofNat 32 (x &&& 63).toBitVec.toNat
    simp
def tgc (m : Nat) : Nat := if m < 51 then 44 + ([220, 300, 313, 326, 339, 419, 499, 567, 635, 691, 747, 760, 773, 786, 811, 867, 923, 979, 1035, 1091, 1147, 1210, 1223, 1236, 1304, 1372, 1440, 1508, 1576, 1656, 1736, 1802, 1815, 1883, 1951, 2019, 2087, 2155, 2223, 2291, 2335, 2391, 2447, 2503, 2516, 2529, 2542, 2598, 2654, 2698, 2711] : List Nat).getD m 0 else 2799
theorem ts_tab : ∀ m, m < 51 → ∃ off, (#[220, 300, 313, 326, 339, 419, 499, 567, 635, 691, 747, 760, 773, 786, 811, 867, 923, 979, 1035, 1091, 1147, 1210, 1223, 1236, 1304, 1372, 1440, 1508, 1576, 1656, 1736, 1802, 1815, 1883, 1951, 2019, 2087, 2155, 2223, 2291, 2335, 2391, 2447, 2503, 2516, 2529, 2542, 2598, 2654, 2698, 2711] : Array Int)[m]? = some off ∧ tg 44 off = some (tgc m) := by
  intro m hm
  have h : ∀ m, m < 51 → (match (#[220, 300, 313, 326, 339, 419, 499, 567, 635, 691, 747, 760, 773, 786, 811, 867, 923, 979, 1035, 1091, 1147, 1210, 1223, 1236, 1304, 1372, 1440, 1508, 1576, 1656, 1736, 1802, 1815, 1883, 1951, 2019, 2087, 2155, 2223, 2291, 2335, 2391, 2447, 2503, 2516, 2529, 2542, 2598, 2654, 2698, 2711] : Array Int)[m]? with | some off => decide (tg 44 off = some (tgc m)) | none => false) = true := by decide +kernel
  have h9 := h m hm
  split at h9
  · rename_i off ho
    exact ⟨off, ho, of_decide_eq_true h9⟩
  · cases h9
theorem ts_ok {c : Nat → List AV → SS → Option Out} {LL : List (Option AV)} {L2 : List (Nat × AV)} {St : List AV} {m : Nat} (hm : m < 64) : ev c 311 44 LL L2 (aI (N m) :: St) S = ev c 311 (tgc m) LL L2 St S := by
  have hi : (N m).toInt = ((m : Nat) : Int) := Int32.toInt_ofNat_of_lt (by omega)
  refine ev_go i311_44 ?_
  by_cases h : m < 51
  · obtain ⟨off, h1, h2⟩ := ts_tab m h
    have e1 : ¬ ((N m).toInt < 0 ∨ 50 < (N m).toInt) := by
      rw [hi]
      omega
    have e2 : ((N m).toInt - 0).toNat = m := by
      rw [hi]
      omega
    simp only [stepI, if_neg e1, e2, h1, h2]
    rfl
  · have e1 : (N m).toInt < 0 ∨ 50 < (N m).toInt := by
      rw [hi]
      omega
    have e3 : tgc m = 2799 := if_neg h
    have e4 : tg 44 2755 = some 2799 := by decide
    simp only [stepI, if_pos e1, e3, e4]
    rfl
end LAW
