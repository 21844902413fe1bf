/-! THE METHODS' MEANING: text -/
abbrev nq (S : SS) : Nat := S.2.2.2.2.1
abbrev nms (S : SS) : List OId := S.2.2.2.2.2.1
abbrev xsS (S : SS) : Nat → Int32 := S.2.2.2.2.2.2.2.2
theorem ev_nab {c : Nat → List AV → SS → Option Out} {M pc pc' m n : Nat} {L : List (Option AV)} {L2 : List (Nat × AV)} {St : List AV} {S : SS} {r : Nat × Nat × Nat × Nat} {z : Int} (h : insAt M pc = some (.newarray .byte, n, r, z)) (hp : pc + 2 = pc') (hm : m ≤ 65536) : ev c M pc L L2 (aI (N m) :: St) S = ev c M pc' L L2 (aR (60, nq S, m) :: St) (mk S (60, nq S, m) (nq S + 1) (nms S) m) := by
  subst hp
  refine ev_go h ?_
  have h1 : ¬ (N m < 0 ∨ 65536 < (N m).toNatClampNeg) := by
    rw [N_neg (by omega), N_cl (by omega)]
    simp
    omega
  show (if N m < 0 ∨ 65536 < (N m).toNatClampNeg then none else _) = _
  rw [if_neg h1, N_cl (by omega)]
  rfl
theorem ev_newc {c : Nat → List AV → SS → Option Out} {M pc pc' k n : Nat} {L : List (Option AV)} {L2 : List (Nat × AV)} {St : List AV} {S : SS} {r : Nat × Nat × Nat × Nat} {z : Int} (h : insAt M pc = some (.new k, n, r, z)) (hp : pc + 3 = pc') (hr : r.2.2.1 = 0) (hn : nms S = []) (hc : r.1 < 2) : ev c M pc L L2 St S = ev c M pc' L L2 (aR (r.1, nq S, 2) :: St) (mk S (r.1, nq S, 2) (nq S + 1) [] (nfl r.1)) := by
  subst hp
  refine ev_go h ?_
  obtain ⟨r1, r2, r3, r4⟩ := r
  have hr' : r3 = 0 := hr
  subst hr'
  have e : mkC S r1 = some ((r1, nq S, 2), mk S (r1, nq S, 2) (nq S + 1) [] (nfl r1)) := by
    unfold mkC
    rw [show S.2.2.2.2.2.1 = [] from hn]
    exact if_pos hc
  show (match mkC S r1 with | some (o, S') => nx (pc + 3) L L2 (aR o :: St) S' | none => none) = _
  rw [e]
  rfl
theorem mk_I {S : SS} {o x : OId} {q n : Nat} {ns : List OId} (h : x ≠ o) : (mk S o q ns n).1 x = S.1 x := by
  funext k
  show (if x = o then _ else _) = _
  rw [if_neg h]
theorem mk_M {S : SS} {o x : OId} {q n : Nat} {ns : List OId} (h : x ≠ o) : (mk S o q ns n).2.1 x = S.2.1 x := by
  funext k
  show (if x = o then _ else _) = _
  rw [if_neg h]
theorem mk_R {S : SS} {o x : OId} {q n : Nat} {ns : List OId} (h : x ≠ o) : (mk S o q ns n).2.2.1 x = S.2.2.1 x := by
  funext k
  show (if x = o then _ else _) = _
  rw [if_neg h]
theorem setI_o {I : OId → Nat → Int32} {o x : OId} {k : Nat} {v : Int32} (h : x ≠ o) : setI I o k v x = I x := by
  funext j
  show (if x = o ∧ j = k then _ else _) = _
  rw [if_neg (fun q => h q.1)]
theorem setV_o {I : OId → Nat → AV} {o x : OId} {k : Nat} {v : AV} (h : x ≠ o) : setV I o k v x = I x := by
  funext j
  show (if x = o ∧ j = k then _ else _) = _
  rw [if_neg (fun q => h q.1)]
theorem setRow_o {I : OId → Nat → Int32} {o x : OId} {f : Nat → Int32} (h : x ≠ o) : setRow I o f x = I x := by
  funext j
  show (if x = o then _ else _) = _
  rw [if_neg h]
theorem setI_k {I : OId → Nat → Int32} {o : OId} {k j : Nat} {v : Int32} (h : j ≠ k) : setI I o k v o j = I o j := by
  show (if o = o ∧ j = k then _ else _) = _
  rw [if_neg (fun q => h q.2)]
theorem setI_y {I : OId → Nat → Int32} {o : OId} {k : Nat} {v : Int32} : setI I o k v o k = v := if_pos ⟨rfl, rfl⟩
theorem setV_y {I : OId → Nat → AV} {o : OId} {k : Nat} {v : AV} : setV I o k v o k = v := if_pos ⟨rfl, rfl⟩
/-- what is left alone: all but o, the array k, and what is made from q on -/
def FX (o : OId) (k q : Nat) (S S' : SS) : Prop := ∀ x, x ≠ o → (x.1 = 60 → x.2.1 ≠ k ∧ x.2.1 < q) → (x.1 < 2 → x.2.2 = 2 → x.2.1 < q) → S'.1 x = S.1 x ∧ S'.2.1 x = S.2.1 x ∧ S'.2.2.1 x = S.2.2.1 x
/-- the builder o holds the text s in the array k of n bytes -/
def TX (S : SS) (o : OId) (k n : Nat) (s : List Nat) : Prop := S.2.1 o 0 = aR (60, k, n) ∧ (16 ≤ n ∧ n ≤ 40) ∧ s.length ≤ n ∧ S.1 o 1 = 0 ∧ S.1 o 3 = N s.length ∧ ∀ i, i < s.length → S.1 (60, k, n) i = N (s.getD i 0) ∧ s.getD i 0 < 128
/-- c steps of writing -/
def AP (o : OId) (k c : Nat) (S S' : SS) : Prop := FX o k (nq S) S S' ∧ nq S ≤ nq S' ∧ nms S' = [] ∧ cel S' ≤ cel S + c ∧ slo S' ≤ slo S + 40 * c ∧ xsS S' = xsS S
def AQ (o : OId) (k c : Nat) (S S' : SS) (s : List Nat) : Prop := AP o k c S S' ∧ ∃ k' n', (k' = k ∨ nq S ≤ k') ∧ k' < nq S' ∧ TX S' o k' n' s
theorem AP.refl {o : OId} {k : Nat} {S : SS} (h : nms S = []) : AP o k 0 S S := ⟨fun _ _ _ _ => ⟨rfl, rfl, rfl⟩, Nat.le_refl _, h, Nat.le_refl _, Nat.le_refl _, rfl⟩
theorem AP.trans {o : OId} {k k' c c' : Nat} {S S1 S2 : SS} (h : AP o k c S S1) (h' : AP o k' c' S1 S2) (hk : k' = k ∨ nq S ≤ k') : AP o k (c + c') S S2 := by
  obtain ⟨a1, a2, a3, a4, a5, a6⟩ := h
  obtain ⟨b1, b2, b3, b4, b5, b6⟩ := h'
  refine ⟨fun x h1 h2 h3 => ?_, by omega, b3, by omega, by omega, b6.trans a6⟩
  obtain ⟨e1, e2, e3⟩ := a1 x h1 h2 h3
  obtain ⟨f1, f2, f3⟩ := b1 x h1 (fun q => by
    obtain ⟨p1, p2⟩ := h2 q
    refine ⟨fun p => ?_, by omega⟩
    rcases hk with hk | hk <;> omega) (fun q r => by have := h3 q r; omega)
  exact ⟨f1.trans e1, f2.trans e2, f3.trans e3⟩
theorem AQ.trans {o : OId} {k k' c c' : Nat} {S S1 S2 : SS} {s' : List Nat} (h : AP o k c S S1) (hk : k' = k ∨ nq S ≤ k') (h' : AQ o k' c' S1 S2 s') : AQ o k (c + c') S S2 s' := by
  obtain ⟨h1, k2, n2, h2, h3, h4⟩ := h'
  refine ⟨h.trans h1 hk, k2, n2, ?_, h3, h4⟩
  have := h.2.1
  rcases h2 with h2 | h2
  · rw [h2]; exact hk
  · exact Or.inr (by omega)
section TEXT
variable {d k n : Nat} {j t : Nat} {S : SS} {s : List Nat}
theorem by8_tab : ∀ c, c < 128 → by8 (N c) = N c := by decide +kernel
theorem isLatin_ok (h : TX S (1, j, t) k n s) : evm (d + 1) 180 [aR (1, j, t)] S = some (.inl (some (aI 1)), S) := by
  have e : by8 0 = 0 := rfl
  simp only [m180, s180_0, s180_3, s180_6, s180_7, s180_10, s180_13, s180_14, s180_17, s180_18, h.2.2.2.1, e, if_false, if_true, ck_v, ck_x, Option.toList, List.cons_append, List.nil_append, kil_nil, N_1, o10, o00, exN_0, exN_1, exN_2, exN_3, exN_4, exN_5, Ex, or_true]
theorem shz_t : ∀ c, c < 64 → (N c) >>> ((0 : Int32) &&& 31) = N c ∧ (N c) <<< ((0 : Int32) &&& 31) = N c := by decide +kernel
theorem sub_le : ∀ m, m < 20 → ∀ n, n < 41 → (N m - N n ≤ 0) = (m ≤ n) := by
  have h : ∀ m, m < 20 → ∀ n, n < 41 → (decide (N m - N n ≤ 0)) = decide (m ≤ n) := by decide +kernel
  intro m hm n hn
  exact propext ⟨fun q => of_decide_eq_true (by rw [← h m hm n hn]; exact decide_eq_true q), fun q => of_decide_eq_true (by rw [h m hm n hn]; exact decide_eq_true q)⟩
theorem grow178 {m : Nat} (h : (n = 16 ∧ m = 17) ∨ (n = 16 ∧ m = 18) ∨ (n = 17 ∧ m = 18)) : evm (d + 1) 178 [aI (N n), aI (N m - N n), aI (N n + 2)] S = some (.inl (some (aI (N (2 * n + 2)))), S) := by
  rcases h with ⟨rfl, rfl⟩ | ⟨rfl, rfl⟩ | ⟨rfl, rfl⟩
  all_goals
    simp (decide := true) only [m178, s178_0, s178_1, s178_2, s178_3, s178_6, s178_7, s178_8, s178_9, s178_10, s178_13, s178_14, s178_16, s178_19, s178_20, s178_21, s178_22, s178_26, if_false, if_true, ck_v, ck_x, Option.toList, List.cons_append, List.nil_append, kil_nil, N_1, o10, o00, exN_0, exN_1, exN_2, exN_3, exN_4, exN_5, Ex]
    rfl
theorem grow177 {m : Nat} (h : (n = 16 ∧ m = 17) ∨ (n = 16 ∧ m = 18) ∨ (n = 17 ∧ m = 18)) (hT : TX S (1, j, t) k n s) : evm (d + 2) 177 [aR (1, j, t), aI (N m)] S = some (.inl (some (aI (N (2 * n + 2)))), S) := by
  obtain ⟨h1, h2, h3, h4, -⟩ := hT
  have e : by8 0 = 0 := rfl
  have hk : kOf (60, k, n) = .inr (.byte, n) := rfl
  have s1 := (shz_t n (by omega)).2
  have s2 := (shz_t m (by omega)).2
  have s3 := (shz_t (2 * n + 2) (by omega)).1
  have s4 : (2 : Int32) <<< ((0 : Int32) &&& 31) = 2 := by decide
  have s0 : ((N m) <<< ((0 : Int32) &&& 31)) - N n = N m - N n := by rw [s2]
  have n9 : (N (2 * n + 2) = 2147483647) = False := by
    show (N (2 * n + 2) = N 2147483647) = False
    rw [N_inj (by omega) (by omega)]
    exact eq_false (by omega)
  simp only [m177, s177_0, s177_1, s177_4, s177_5, s177_6, s177_7, s177_8, s177_11, s177_12, s177_13, s177_14, s177_15, s177_16, s177_18, s177_19, s177_21, s177_22, s177_23, s177_24, s177_27, s177_28, s177_29, s177_32, s177_34, s177_36, s177_38, s177_44, s177_51, s177_53, s177_54, s177_57, s177_58, h1, h4, e, kN, hk, s2, s4, grow178 h, n9, s3, if_false, if_true, ck_v, ck_x, Option.toList, List.cons_append, List.nil_append, kil_nil, N_1, o10, o00, exN_0, exN_1, exN_2, exN_3, exN_4, exN_5, Ex]
theorem copy179 {m : Nat} (hm : n < m) (hm2 : m ≤ 40) (hn : 16 ≤ n) : evm (d + 1) 179 [aR (60, k, n), aI (N m)] S = if (60, k, n) = (60, nq S, m) then none else some (.inl (some (aR (60, nq S, m))), (setRow (mk S (60, nq S, m) (nq S + 1) (nms S) m).1 (60, nq S, m) (va_cpy (agB (mk S (60, nq S, m) (nq S + 1) (nms S) m) (60, k, n)) (fun _ => 0) 0 0 n), (mk S (60, nq S, m) (nq S + 1) (nms S) m).2)) := by
  have hk : kOf (60, k, n) = .inr (.byte, n) := rfl
  have hq : kOf (60, nq S, m) = .inr (.byte, m) := rfl
  have hne : (N m = N n) = False := by
    rw [N_inj (by omega) (by omega)]
    exact eq_false (by omega)
  have i15 : insAt 179 15 = some (.newarray .byte, 2, (0, 0, 0, 0), 0) := rfl
  have hl : (N m < N n) = False := by
    rw [N_lt (by omega) (by omega)]
    exact eq_false (by omega)
  have ro : ∀ a b, isRo (60, a, b) = false := fun _ _ => rfl
  have c0 : (0 : Int32).toNatClampNeg = 0 := rfl
  have z0 : ¬ (0 : Int32) < 0 := by decide
  have zn : ¬ N n < 0 := by rw [N_neg (by omega)]; exact fun q => q
  have hnm : 0 + n ≤ m := by omega
  have hnn : 0 + n ≤ n := by omega
  have rz : (mk S (60, nq S, m) (nq S + 1) (nms S) m).1 (60, nq S, m) = fun _ => 0 := by
    funext i
    exact if_pos rfl
  simp only [m179, s179_0, s179_1, s179_2, s179_3, s179_6, s179_13, s179_13N, s179_14, s179_17, s179_18, s179_19, s179_20, s179_21, s179_22, s179_23, s179_24, s179_25, s179_28, s179_31, s179_32, s179_32N, kN, hk, hne, ev_nab (pc' := 17) i15 rfl (show m ≤ 65536 by omega), hl, if_false, if_true, ck_v, ck_x, Option.toList, List.cons_append, List.nil_append, kil_nil, N_1, o10, o00, exN_0, exN_1, exN_2, exN_3, exN_4, exN_5, Ex, acp, hq, ro, N_cl (show n < 2147483648 by omega), c0, z0, zn, not_false_eq_true, true_and, hnm, hnn, rz]
  by_cases h : ((60, k, n) : OId) = (60, nq S, m)
  · rw [if_neg (fun q => q.1 h), if_pos h]
    rfl
  · rw [if_pos ⟨h, trivial⟩, if_neg h]
    rfl
end TEXT
