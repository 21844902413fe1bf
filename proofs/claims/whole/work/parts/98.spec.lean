/-! THE METHODS' MEANING: text, a String made of a builder; characters -/
/-- what is left alone: all that was there -/
def FY (q : Nat) (S S' : SS) : Prop := ∀ x, (x.1 = 60 → x.2.1 < q) → (x.1 < 2 → x.2.2 = 2 → x.2.1 < q) → S'.1 x = S.1 x ∧ S'.2.1 x = S.2.1 x ∧ S'.2.2.1 x = S.2.2.1 x
/-- the String o holds the text s in the array k -/
def txM (S : SS) (o : OId) (k : Nat) (s : List Nat) : Prop := S.2.1 o 0 = aR (60, k, s.length) ∧ S.1 o 1 = 0 ∧ ∀ i, i < s.length → S.1 (60, k, s.length) i = N (s.getD i 0) ∧ s.getD i 0 < 128
theorem FY.refl {q : Nat} {S : SS} : FY q S S := fun _ _ _ => ⟨rfl, rfl, rfl⟩
theorem FY.trans {q q' : Nat} {S S1 S2 : SS} (h : FY q S S1) (h' : FY q' S1 S2) (hq : q ≤ q') : FY q S S2 := fun x h1 h2 => by
  obtain ⟨a1, a2, a3⟩ := h x h1 h2
  obtain ⟨b1, b2, b3⟩ := h' x (fun e => Nat.lt_of_lt_of_le (h1 e) hq) (fun e e' => Nat.lt_of_lt_of_le (h2 e e') hq)
  exact ⟨b1.trans a1, b2.trans a2, b3.trans a3⟩
section TEXT5
variable {d k n : Nat} {j t : Nat} {S : SS} {s : List Nat}
theorem strInit {q : Nat} (hT : TX S (1, j, t) k n s) (hk : k < nq S) (hn : nms S = []) (hl : s.length ≤ 18) : ∃ S3, evm (d + 5) 191 [aR (0, q, 2), aR (1, j, t)] S = some (.inl none, S3) ∧ S3.2.1 (0, q, 2) 0 = aR (60, nq S, s.length) ∧ S3.1 (0, q, 2) 1 = 0 ∧ (∀ i, i < s.length → S3.1 (60, nq S, s.length) i = N (s.getD i 0)) ∧ (∀ x, x ≠ (0, q, 2) → x ≠ (60, nq S, s.length) → S3.1 x = S.1 x ∧ S3.2.1 x = S.2.1 x ∧ S3.2.2.1 x = S.2.2.1 x) ∧ nq S3 = nq S + 1 ∧ nms S3 = [] ∧ cel S3 = cel S + 1 ∧ slo S3 = slo S + s.length ∧ xsS S3 = xsS S ∧ S3.2.2.2.1 = S.2.2.2.1 ++ [(60, nq S, s.length)] := by
  have hT0 := hT
  obtain ⟨h1, h2, h3, h4, h5, h6⟩ := hT0
  have e8 : by8 0 = 0 := rfl
  have no1 : ((1, j, t) : OId) ≠ (0, q, 2) := by simp
  have no6 : ((60, k, n) : OId) ≠ (0, q, 2) := by simp
  have m1 : setI S.1 (0, q, 2) 1 0 (1, j, t) = S.1 (1, j, t) := setI_o no1
  have m6 : setI S.1 (0, q, 2) 1 0 (60, k, n) = S.1 (60, k, n) := setI_o no6
  have hT2 : TX ((setI S.1 (0, q, 2) 1 0, S.2) : SS) (1, j, t) k n s := ⟨h1, h2, h3, (congrFun m1 1).trans h4, (congrFun m1 3).trans h5, fun i hi => ⟨(congrFun m6 i).trans (h6 i hi).1, (h6 i hi).2⟩⟩
  obtain ⟨row, e0, hrow⟩ := cor_ok (d := d) (S := ((setI S.1 (0, q, 2) 1 0, S.2) : SS)) hT2 hk hn hl
  obtain ⟨S4, hS4⟩ : ∃ S4 : SS, S4 = (setRow (mk ((setI S.1 (0, q, 2) 1 0, S.2) : SS) (60, nq S, s.length) (nq S + 1) (nms S) s.length).1 (60, nq S, s.length) row, (mk ((setI S.1 (0, q, 2) 1 0, S.2) : SS) (60, nq S, s.length) (nq S + 1) (nms S) s.length).2) := ⟨_, rfl⟩
  have e1 : evm (d + 3) 196 [aR (60, k, n), aI 0, aI (N s.length)] ((setI S.1 (0, q, 2) 1 0, S.2) : SS) = some (.inl (some (aR (60, nq S, s.length))), S4) := by
    rw [hS4]
    exact e0
  have il : evm (d + 3) 180 [aR (1, j, t)] S = some (.inl (some (aI 1)), S) := isLatin_ok hT
  refine ⟨(S4.1, setV S4.2.1 (0, q, 2) 0 (aR (60, nq S, s.length)), S4.2.2), ?_, setV_y, ?_, ?_, ?_, ?_, ?_, ?_, ?_, ?_, ?_⟩
  · simp only [m191, s191_0, s191_1, s191_2, s191_3, s191_6, m192, s192_0, s192_1, s192_4, s192_5, s192_8, s192_9, s192_10, s192_13, s192_15, s192_16, s192_19, s192_22, s192_23, s192_24, s192_27, s192_28, s192_29, s192_30, s192_32, s192_35, s192_38, s192_97, m193, s193_0, s193_1, s193_4, s193_4N, m194, s194_0, s194_1, s194_4, m195, s195_0, s195_1, s195_4, il, h1, h5, e8, e1, if_false, if_true, ck_v, ck_x, Option.toList, List.cons_append, List.nil_append, kil_nil, N_1, o10, o00, exN_0, exN_1, exN_2, exN_3, exN_4, exN_5, Ex]
  · show S4.1 (0, q, 2) 1 = 0
    rw [hS4]
    show setRow (mk ((setI S.1 (0, q, 2) 1 0, S.2) : SS) (60, nq S, s.length) (nq S + 1) (nms S) s.length).1 (60, nq S, s.length) row (0, q, 2) 1 = 0
    rw [setRow_o (by simp), mk_I (by simp)]
    exact setI_y
  · intro i hi
    show S4.1 (60, nq S, s.length) i = _
    rw [hS4]
    exact (if_pos rfl).trans (hrow i hi)
  · intro x x1 x2
    refine ⟨?_, ?_, ?_⟩
    · show S4.1 x = _
      rw [hS4]
      show setRow (mk ((setI S.1 (0, q, 2) 1 0, S.2) : SS) (60, nq S, s.length) (nq S + 1) (nms S) s.length).1 (60, nq S, s.length) row x = _
      rw [setRow_o x2, mk_I x2]
      exact setI_o x1
    · show setV S4.2.1 (0, q, 2) 0 (aR (60, nq S, s.length)) x = _
      rw [setV_o x1, hS4]
      exact mk_M x2
    · show S4.2.2.1 x = _
      rw [hS4]
      exact mk_R x2
  · show nq S4 = _
    rw [hS4]
    rfl
  · show nms S4 = _
    rw [hS4]
    exact hn
  · show cel S4 = _
    rw [hS4]
    rfl
  · show slo S4 = _
    rw [hS4]
    rfl
  · show xsS S4 = _
    rw [hS4]
    rfl
  · show S4.2.2.2.1 = _
    rw [hS4]
    rfl
theorem n190_0 {c : Nat → List AV → SS → Option Out} {L : List (Option AV)} {L2 : List (Nat × AV)} {St : List AV} (hn : nms S = []) : ev c 190 0 L L2 St S = ev c 190 3 L L2 (aR (0, nq S, 2) :: St) (mk S (0, nq S, 2) (nq S + 1) [] 4) := by
  have i0 : insAt 190 0 = some (.new 18, 3, (0, 0, 0, 0), 331) := rfl
  exact ev_newc (pc' := 3) i0 rfl rfl hn (by decide)
theorem TX.mkk (hT : TX S (1, j, t) k n s) {o : OId} {p : Nat} {ns : List OId} {m : Nat} (h1 : (1, j, t) ≠ o) (h2 : ((60, k, n) : OId) ≠ o) : TX (mk S o p ns m) (1, j, t) k n s := by
  obtain ⟨a1, a2, a3, a4, a5, a6⟩ := hT
  refine ⟨?_, a2, a3, ?_, ?_, fun i hi => ?_⟩
  · rw [mk_M h1]; exact a1
  · rw [mk_I h1]; exact a4
  · rw [mk_I h1]; exact a5
  · rw [mk_I h2]; exact a6 i hi
theorem toString_ok (hT : TX S (1, j, t) k n s) (hk : k < nq S) (hn : nms S = []) (hl : s.length ≤ 18) : ∃ S', evm (d + 6) 190 [aR (1, j, t)] S = some (.inl (some (aR (0, nq S, 2))), S') ∧ txM S' (0, nq S, 2) (nq S + 1) s ∧ FY (nq S) S S' ∧ nq S' = nq S + 2 ∧ nms S' = [] ∧ cel S' = cel S + 2 ∧ slo S' ≤ slo S + 22 ∧ xsS S' = xsS S ∧ S'.2.2.2.1 = S.2.2.2.1 ++ [(0, nq S, 2)] ++ [(60, nq S + 1, s.length)] := by
  have n1 : ((1, j, t) : OId) ≠ (0, nq S, 2) := by simp
  have n6 : ((60, k, n) : OId) ≠ (0, nq S, 2) := by simp
  have hT1 := hT.mkk (p := nq S + 1) (ns := []) (m := 4) n1 n6
  obtain ⟨S3, e1, g1, g2, g3, g4, g5, g6, g7, g8, g9, ga⟩ := strInit (d := d) (q := nq S) hT1 (show k < nq S + 1 by omega) rfl hl
  refine ⟨S3, ?_, ⟨g1, g2, fun i hi => ⟨g3 i hi, (hT.2.2.2.2.2 i hi).2⟩⟩, fun x h1 h2 => ?_, g5, g6, g7, ?_, g9, ga⟩
  · simp only [m190, s190_3, s190_4, s190_5, s190_8, s190_8N, n190_0 hn, e1, if_false, if_true, ck_v, ck_x, Option.toList, List.cons_append, List.nil_append, kil_nil, N_1, o10, o00, exN_0, exN_1, exN_2, exN_3, exN_4, exN_5, Ex]
  · have hx : x ≠ (0, nq S, 2) := fun q => by
      have := h2 (by rw [q]; show 0 < 2; omega) (by rw [q])
      rw [q] at this
      exact absurd this (Nat.lt_irrefl _)
    have hx6 : x ≠ (60, nq S + 1, s.length) := fun q => by
      have := h1 (by rw [q])
      rw [q] at this
      have h9 : nq S + 1 < nq S := this
      omega
    obtain ⟨b1, b2, b3⟩ := g4 x hx hx6
    exact ⟨b1.trans (mk_I hx), b2.trans (mk_M hx), b3.trans (mk_R hx)⟩
  · have h9 : slo S3 = slo S + 4 + s.length := g8
    omega
theorem chk_ok {i m : Nat} (hi : i < m) (hm : m < 100) : evm (d + 2) 202 [aI (N i), aI (N m)] S = some (.inl none, S) := by
  have z1 : (N i < 0) = False := N_neg (by omega)
  have z2 : (N i < N m) = True := N_lt1 hi (by omega)
  simp only [m202, s202_0, s202_1, s202_2, s202_5, s202_8, s202_9, m203, s203_0, s203_1, s203_4, s203_5, s203_6, s203_16, s203_17, z1, z2, if_false, if_true, ck_v, ck_x, Option.toList, List.cons_append, List.nil_append, kil_nil, N_1, o10, o00, exN_0, exN_1, exN_2, exN_3, exN_4, exN_5, Ex]
theorem chb_tab : ∀ c, c < 128 → N c &&& 255 = N c ∧ ((N c).toUInt32 % 65536).toInt32 = N c := by decide +kernel
theorem agB_60 {i : Nat} : agB S (60, k, n) i = by8 (S.1 (60, k, n) i) := rfl
theorem charAt_ok {i : Nat} (hT : TX S (1, j, t) k n s) (hi : i < s.length) : evm (d + 4) 206 [aR (1, j, t), aI (N i)] S = some (.inl (some (aI (N (s.getD i 0)))), S) := by
  obtain ⟨h1, h2, h3, h4, h5, h6⟩ := hT
  obtain ⟨g1, g2⟩ := h6 i hi
  obtain ⟨t1, t2⟩ := chb_tab _ g2
  have e8 : by8 0 = 0 := rfl
  have hK : kOf (60, k, n) = .inr (.byte, n) := rfl
  have s1 := (shz_t n (by omega)).1
  have hlt : (N n < N s.length) = False := by
    rw [N_lt (by omega) (by omega)]
    exact eq_false (by omega)
  have hb : by8 (N (s.getD i 0)) = N (s.getD i 0) := by8_tab _ g2
  simp only [m206, s206_0, s206_1, s206_2, s206_5, m207, s207_0, s207_1, s207_4, s207_5, s207_6, s207_9, s207_10, s207_11, s207_14, s207_15, s207_16, s207_17, s207_18, s207_21, s207_23, s207_24, s207_26, s207_29, s207_30, s207_33, s207_34, s207_35, s207_36, s207_39, s207_40, s207_41, h1, h4, h5, e8, kN, hK, s1, hlt, chk_ok hi (show s.length < 100 by omega), kB, inB_N (show i < n by omega) (by omega), N_cl (show i < 2147483648 by omega), agB_60, g1, hb, t1, t2, if_false, if_true, ck_v, ck_x, Option.toList, List.cons_append, List.nil_append, kil_nil, N_1, o10, o00, exN_0, exN_1, exN_2, exN_3, exN_4, exN_5, Ex]
theorem lineAt_ok {i : Nat} (hR : RF S.2.2.1) (hT : TX S (1, 0, 0) k n s) (hi : i < s.length) : evm (d + 5) 205 [aR (11, 0, 0), aI (N i)] S = some (.inl (some (aI (N (s.getD i 0)))), S) := by
  have h5 := hT.2.2.2.2.1
  have h2 := hT.2.1
  have h3 := hT.2.2.1
  have t2 := (chb_tab _ (hT.2.2.2.2.2 i hi).2).2
  have z1 : (N i < 0) = False := N_neg (by omega)
  have z2 : (N i < N s.length) = True := N_lt1 hi (by omega)
  have ec : evm (d + 4) 206 [aR (1, 0, 0), aI (N i)] S = _ := charAt_ok hT hi
  simp only [m205, s205_0, s205_1, s205_4, s205_5, s205_6, s205_9, s205_12, s205_26, s205_27, s205_30, s205_31, s205_34, m194, s194_0, s194_1, s194_4, m195, s195_0, s195_1, s195_4, hR.o.2.2.2.2.2, h5, z1, z2, ec, t2, if_false, if_true, ck_v, ck_x, Option.toList, List.cons_append, List.nil_append, kil_nil, N_1, o10, o00, exN_0, exN_1, exN_2, exN_3, exN_4, exN_5, Ex]
theorem lineAt_no {x : Int32} (hR : RF S.2.2.1) (hT : TX S (1, 0, 0) k n s) (hx : ¬ (¬ x < 0 ∧ x < N s.length)) : evm (d + 5) 205 [aR (11, 0, 0), aI x] S = Ex 4 S := by
  have h5 := hT.2.2.2.2.1
  by_cases h : x < 0
  · simp only [m205, s205_0, s205_1, s205_4, s205_5, s205_6, s205_9, s205_12, s205_15, s205_26, s205_27, s205_30, s205_31, s205_34, h, if_false, if_true, ck_v, ck_x, Option.toList, List.cons_append, List.nil_append, kil_nil, N_1, o10, o00, exN_0, exN_1, exN_2, exN_3, exN_4, exN_5, Ex]
  · have h' : ¬ x < N s.length := fun q => hx ⟨h, q⟩
    simp only [m205, s205_0, s205_1, s205_4, s205_5, s205_6, s205_9, s205_12, s205_15, s205_26, s205_27, s205_30, s205_31, s205_34, m194, s194_0, s194_1, s194_4, m195, s195_0, s195_1, s195_4, hR.o.2.2.2.2.2, h5, h, h', if_false, if_true, ck_v, ck_x, Option.toList, List.cons_append, List.nil_append, kil_nil, N_1, o10, o00, exN_0, exN_1, exN_2, exN_3, exN_4, exN_5, Ex]
end TEXT5
