/-! THE METHODS' MEANING: text, String constants, the length, a String made -/
section TEXT4
variable {d k n : Nat} {j t : Nat} {S : SS} {s : List Nat}
theorem fg_c0 {c : Nat} : fget S 0 0 (0, c, 1) = aR (47, c, 0) := by first | rfl | exact if_pos rfl
theorem fg_c1 {c : Nat} : fget S 0 1 (0, c, 1) = aI 0 := by first | rfl | exact if_pos rfl
theorem fg_d0 {q : Nat} : fget S 0 0 (0, q, 2) = S.2.1 (0, q, 2) 0 := by first | rfl | exact if_neg (by decide : ¬ (2 : Nat) = 1)
theorem fg_d1 {q : Nat} : fget S 0 1 (0, q, 2) = aI (by8 (S.1 (0, q, 2) 1)) := by first | rfl | exact if_neg (by decide : ¬ (2 : Nat) = 1)
def sc (c : Nat) : List Nat := if c = 0 then [32, 99] else if c = 1 then [32, 84] else [32, 76]
theorem sc_len {c : Nat} : (sc c).length = 2 := by
  unfold sc
  split
  · rfl
  · split <;> rfl
theorem sc_128 {c i : Nat} (hi : i < 2) : (sc c).getD i 0 < 128 := by
  unfold sc
  rcases (by omega : i = 0 ∨ i = 1) with rfl | rfl <;> (repeat' split) <;> decide
theorem ag_47 {c i : Nat} (hc : c < 3) (hi : i < 2) : agB S (47, c, 0) i = N ((sc c).getD i 0) := by
  rcases (by omega : c = 0 ∨ c = 1 ∨ c = 2) with rfl | rfl | rfl <;> rcases (by omega : i = 0 ∨ i = 1) with rfl | rfl <;> rfl
theorem coder_c {c : Nat} : evm (d + 1) 182 [aR (0, c, 1)] S = some (.inl (some (aI 0)), S) := by
  have e : by8 0 = 0 := rfl
  simp only [m182, s182_0, s182_3, s182_6, s182_7, s182_10, s182_13, s182_14, fg_c1, e, if_false, if_true, ck_v, ck_x, Option.toList, List.cons_append, List.nil_append, kil_nil, N_1, o10, o00, exN_0, exN_1, exN_2, exN_3, exN_4, exN_5, Ex]
theorem length_c {c : Nat} : evm (d + 2) 181 [aR (0, c, 1)] S = some (.inl (some (aI (N 2))), S) := by
  have hK : kOf (47, c, 0) = .inr (.byte, 2) := rfl
  have s1 := (shz_t 2 (by omega)).1
  simp only [m181, s181_0, s181_1, s181_4, s181_5, s181_6, s181_9, s181_10, fg_c0, coder_c, kN, hK, s1, if_false, if_true, ck_v, ck_x, Option.toList, List.cons_append, List.nil_append, kil_nil, N_1, o10, o00, exN_0, exN_1, exN_2, exN_3, exN_4, exN_5, Ex]
theorem acp_c {c p : Nat} (hp : p + 2 ≤ n) (hn : n ≤ 40) : acp S (47, c, 0) 0 (60, k, n) (N p) (N 2) = some (setRow S.1 (60, k, n) (va_cpy (agB S (47, c, 0)) (S.1 (60, k, n)) 0 p 2), S.2) := by
  show (if isRo (60, k, n) = false ∧ ((47, c, 0) : OId) ≠ (60, k, n) ∧ ¬ (0 : Int32) < 0 ∧ ¬ N p < 0 ∧ ¬ N 2 < 0 ∧ (0 : Int32).toNatClampNeg + (N 2).toNatClampNeg ≤ 2 ∧ (N p).toNatClampNeg + (N 2).toNatClampNeg ≤ n then some (setRow S.1 (60, k, n) (va_cpy (agB S (47, c, 0)) (S.1 (60, k, n)) (0 : Int32).toNatClampNeg (N p).toNatClampNeg (N 2).toNatClampNeg), S.2) else none) = _
  have c0 : (0 : Int32).toNatClampNeg = 0 := rfl
  have c2 : (N 2).toNatClampNeg = 2 := rfl
  have cp : (N p).toNatClampNeg = p := N_cl (by omega)
  have zp : ¬ N p < 0 := by rw [N_neg (by omega)]; exact fun q => q
  have ro : isRo (60, k, n) = false := rfl
  have ne : ((47, c, 0) : OId) ≠ (60, k, n) := by simp
  rw [c0, c2, cp, if_pos ⟨ro, ne, by decide, zp, by decide, by omega, hp⟩]
theorem getBytes_c {c p : Nat} (hp : p + 2 ≤ n) (hn : n ≤ 40) : evm (d + 2) 185 [aR (0, c, 1), aR (60, k, n), aI (N p), aI 0] S = some (.inl none, (setRow S.1 (60, k, n) (va_cpy (agB S (47, c, 0)) (S.1 (60, k, n)) 0 p 2), S.2)) := by
  have hK : kOf (47, c, 0) = .inr (.byte, 2) := rfl
  have s2 := (shz_t p (by omega)).2
  simp only [m185, s185_0, s185_1, s185_4, s185_5, s185_8, s185_9, s185_12, s185_13, s185_14, s185_15, s185_16, s185_17, s185_18, s185_21, s185_22, s185_25, s185_43, fg_c0, coder_c, kN, hK, s2, acp_c hp hn, kA, if_false, if_true, ck_v, ck_x, Option.toList, List.cons_append, List.nil_append, kil_nil, N_1, o10, o00, exN_0, exN_1, exN_2, exN_3, exN_4, exN_5, Ex]
theorem str_ok {c : Nat} (hT : TX S (1, j, t) k n s) (hk : k < nq S) (hn : nms S = []) (hc : c < 3) (hl : s.length + 2 ≤ 18) : ∃ S', evm (d + 6) 174 [aR (1, j, t), aR (0, c, 1)] S = some (.inl (some (aR (1, j, t))), S') ∧ AQ (1, j, t) k 1 S S' (s ++ sc c) := by
  obtain ⟨S1, e1, hA, k1, n1, hk1, hk2, hT1, hm⟩ := room_ok (d := d + 1) (m := s.length + 2) hT hk hn (by omega) (by omega)
  have e1' : evm (d + 4) 176 [aR (1, j, t), aI (N (s.length + 2))] S = some (.inl none, S1) := e1
  have hT1' := hT1
  obtain ⟨a1, a2, a3, a4, a5, a6⟩ := hT1'
  have hlen : (s ++ sc c).length = s.length + 2 := by rw [List.length_append, sc_len]
  have ho : ((1, j, t) : OId) ≠ (60, k1, n1) := by simp
  have e8 : by8 0 = 0 := rfl
  have g' : evm (d + 3) 185 [aR (0, c, 1), aR (60, k1, n1), aI (N s.length), aI 0] S1 = some (.inl none, (setRow S1.1 (60, k1, n1) (va_cpy (agB S1 (47, c, 0)) (S1.1 (60, k1, n1)) 0 s.length 2), S1.2)) := getBytes_c (d := d + 1) (by omega) (by omega)
  have hW := TX.write (S := S1) (s' := s ++ sc c) (I' := setI (setRow S1.1 (60, k1, n1) (va_cpy (agB S1 (47, c, 0)) (S1.1 (60, k1, n1)) 0 s.length 2)) (1, j, t) 3 (N (s.length + 2))) hT1 hk2 hA.2.2.1 (by omega) (by
      rw [setI_k (by decide), setRow_o ho]
      exact a4) (by
      rw [setI_y, hlen]) (fun i hi => by
      rw [setI_o ho.symm, getD_app2]
      rw [hlen] at hi
      have e9 : setRow S1.1 (60, k1, n1) (va_cpy (agB S1 (47, c, 0)) (S1.1 (60, k1, n1)) 0 s.length 2) (60, k1, n1) i = va_cpy (agB S1 (47, c, 0)) (S1.1 (60, k1, n1)) 0 s.length 2 i := if_pos rfl
      rw [e9]
      unfold va_cpy
      by_cases h : i < s.length
      · rw [if_neg (show ¬ (s.length ≤ i ∧ i < s.length + 2) by omega), if_pos h]
        exact a6 i h
      · rw [if_pos (show s.length ≤ i ∧ i < s.length + 2 by omega), if_neg h]
        refine ⟨?_, sc_128 (by omega)⟩
        rw [ag_47 hc (by omega), Nat.zero_add]) (fun x x1 x2 => by
      rw [setI_o x1]
      exact setRow_o x2)
  refine ⟨_, ?_, AQ.trans hA hk1 hW⟩
  have e175 : evm (d + 5) 175 [aR (1, j, t), aR (0, c, 1)] S = some (.inl (some (aR (1, j, t))), (setI (setRow S1.1 (60, k1, n1) (va_cpy (agB S1 (47, c, 0)) (S1.1 (60, k1, n1)) 0 s.length 2)) (1, j, t) 3 (N (s.length + 2)), S1.2)) := by
    simp only [m175, s175_0, s175_1, s175_1N, s175_9, s175_10, s175_13, s175_14, s175_15, s175_16, s175_19, s175_20, s175_21, s175_24, s175_25, s175_26, s175_29, s175_30, s175_33, s175_34, s175_35, s175_38, s175_39, s175_40, s175_43, s175_44, s175_44N, m183, s183_0, s183_1, s183_2, s183_5, s183_6, s183_7, s183_10, s183_11, s183_12, s183_15, s183_18, m184, s184_0, s184_3, s184_6, s184_7, s184_10, s184_11, s184_14, s184_21, length_c, coder_c, hT.2.2.2.2.1, N_add, e1', a1, a4, a5, e8, g', setRow_o ho, if_false, if_true, ck_v, ck_x, Option.toList, List.cons_append, List.nil_append, kil_nil, N_1, o10, o00, exN_0, exN_1, exN_2, exN_3, exN_4, exN_5, Ex]
  simp only [m174, s174_0, s174_1, s174_2, s174_5, s174_6, s174_7, s174_7N, e175, if_false, if_true, ck_v, ck_x, Option.toList, List.cons_append, List.nil_append, kil_nil, N_1, o10, o00, exN_0, exN_1, exN_2, exN_3, exN_4, exN_5, Ex]
theorem rm00 (hT : TX S (1, j, t) k n s) : evm (d + 1) 176 [aR (1, j, t), aI 0] S = some (.inl none, S) := by
  obtain ⟨h1, h2, h3, h4, h5, h6⟩ := hT
  have e : by8 0 = 0 := rfl
  have hK : kOf (60, k, n) = .inr (.byte, n) := rfl
  have s1 := (shz_t n (by omega)).1
  have sl : ((0 : Int32) - N n ≤ 0) = True := (sub_le 0 (by omega) n (by omega)).trans (eq_true (Nat.zero_le _))
  simp only [m176, s176_0, s176_1, s176_4, s176_5, s176_6, s176_9, s176_10, s176_11, s176_12, s176_13, s176_14, s176_38, h1, h4, e, kN, hK, s1, sl, if_false, if_true, ck_v, ck_x, Option.toList, List.cons_append, List.nil_append, kil_nil, N_1, o10, o00, exN_0, exN_1, exN_2, exN_3, exN_4, exN_5, Ex]
theorem setLen_ok (hT : TX S (1, j, t) k n s) (hk : k < nq S) (hn : nms S = []) : ∃ S', evm (d + 3) 172 [aR (1, j, t), aI 0] S = some (.inl none, S') ∧ AQ (1, j, t) k 0 S S' [] := by
  have hT' := hT
  obtain ⟨h1, h2, h3, h4, h5, h6⟩ := hT'
  have z0 : ((0 : Int32) ≤ 0) = True := by decide
  have z1 : ((0 : Int32) ≤ N s.length) = True := (N_le (a := 0) (by omega) (by omega)).trans (eq_true (Nat.zero_le _))
  have r0 : evm (d + 1) 176 [aR (1, j, t), aI 0] S = some (.inl none, S) := rm00 hT
  by_cases h0 : s.length ≤ 0
  · have z2 : (N s.length ≤ 0) = True := (N_le (b := 0) (by omega) (by omega)).trans (eq_true h0)
    have hW := TX.write (S := S) (s' := []) (I' := setI S.1 (1, j, t) 3 0) hT hk hn (Nat.zero_le _) ((setI_k (by decide)).trans h4) (setI_y.trans rfl) (fun i hi => absurd hi (Nat.not_lt_zero _)) (fun x x1 _ => setI_o x1)
    refine ⟨_, ?_, hW⟩
    simp only [m172, s172_0, s172_1, s172_2, s172_5, m173, s173_0, s173_1, s173_13, s173_14, s173_15, s173_18, s173_19, s173_22, s173_23, s173_63, s173_64, s173_67, s173_68, s173_71, s173_72, s173_73, s173_76, s173_77, s173_78, s173_81, r0, z0, z1, z2, h5, if_false, if_true, ck_v, ck_x, Option.toList, List.cons_append, List.nil_append, kil_nil, N_1, o10, o00, exN_0, exN_1, exN_2, exN_3, exN_4, exN_5, Ex]
  · have z2 : (N s.length ≤ 0) = False := (N_le (b := 0) (by omega) (by omega)).trans (eq_false h0)
    have hW := TX.write (S := S) (s' := []) (I' := setI (setI S.1 (1, j, t) 2 1) (1, j, t) 3 0) hT hk hn (Nat.zero_le _) ((setI_k (by decide)).trans ((setI_k (by decide)).trans h4)) (setI_y.trans rfl) (fun i hi => absurd hi (Nat.not_lt_zero _)) (fun x x1 _ => (setI_o x1).trans (setI_o x1))
    refine ⟨_, ?_, hW⟩
    simp only [m172, s172_0, s172_1, s172_2, s172_5, m173, s173_0, s173_1, s173_13, s173_14, s173_15, s173_18, s173_19, s173_22, s173_23, s173_63, s173_64, s173_67, s173_68, s173_71, s173_72, s173_73, s173_76, s173_77, s173_78, s173_81, r0, z0, z1, z2, h5, if_false, if_true, ck_v, ck_x, Option.toList, List.cons_append, List.nil_append, kil_nil, N_1, o10, o00, exN_0, exN_1, exN_2, exN_3, exN_4, exN_5, Ex, or_true]
theorem n196_18 {c : Nat → List AV → SS → Option Out} {L : List (Option AV)} {L2 : List (Nat × AV)} (hn : nms S = []) : ev c 196 18 L L2 [aR (60, k, n)] S = ev c 196 21 L L2 [aR (60, nq S, n)] (setRow (mk S (60, nq S, n) (nq S + 1) (nms S) n).1 (60, nq S, n) (S.1 (60, k, n)), (mk S (60, nq S, n) (nq S + 1) (nms S) n).2) := by
  have i18 : insAt 196 18 = some (.invokevirtual 310, 3, (0, 0, 22, 0), 314) := rfl
  refine ev_go i18 ?_
  show (if isRo (60, k, n) = false ∧ ([] : List AV).length ≤ 4 ∧ S.2.2.2.2.2.1 = [] then nx (18 + 3) L L2 (aR (60, nq S, n) :: []) (setRow (mk S (60, nq S, n) (nq S + 1) (nms S) n).1 (60, nq S, n) (S.1 (60, k, n)), (mk S (60, nq S, n) (nq S + 1) (nms S) n).2) else none) = _
  rw [if_pos ⟨rfl, by decide, hn⟩]
  rfl
theorem n196_21 {c : Nat → List AV → SS → Option Out} {L : List (Option AV)} {L2 : List (Nat × AV)} : ev c 196 21 L L2 [aR (60, k, n)] S = ev c 196 24 L L2 [aR (60, k, n)] S := by
  have i21 : insAt 196 21 = some (.checkcast 311, 3, (0, 0, 0, 0), 315) := rfl
  refine ev_go i21 ?_
  show (if isRo (60, k, n) = false then nx (21 + 3) L L2 [aR (60, k, n)] S else none) = _
  rw [if_pos (show isRo (60, k, n) = false from rfl)]
  rfl
theorem acp_b {q m p : Nat} (hkq : ((60, k, n) : OId) ≠ (60, q, m)) (hn : p ≤ n) (hm : p ≤ m) (hp : p < 2147483648) : acp S (60, k, n) 0 (60, q, m) 0 (N p) = some (setRow S.1 (60, q, m) (va_cpy (agB S (60, k, n)) (S.1 (60, q, m)) 0 0 p), S.2) := by
  show (if isRo (60, q, m) = false ∧ ((60, k, n) : OId) ≠ (60, q, m) ∧ ¬ (0 : Int32) < 0 ∧ ¬ (0 : Int32) < 0 ∧ ¬ N p < 0 ∧ (0 : Int32).toNatClampNeg + (N p).toNatClampNeg ≤ n ∧ (0 : Int32).toNatClampNeg + (N p).toNatClampNeg ≤ m then some (setRow S.1 (60, q, m) (va_cpy (agB S (60, k, n)) (S.1 (60, q, m)) (0 : Int32).toNatClampNeg (0 : Int32).toNatClampNeg (N p).toNatClampNeg), S.2) else none) = _
  have c0 : (0 : Int32).toNatClampNeg = 0 := rfl
  have cp : (N p).toNatClampNeg = p := N_cl hp
  have zp : ¬ N p < 0 := by rw [N_neg hp]; exact fun q => q
  have ro : isRo (60, q, m) = false := rfl
  rw [c0, cp, if_pos ⟨ro, hkq, by decide, by decide, zp, by omega, by omega⟩]
theorem cor_ok (hT : TX S (1, j, t) k n s) (hk : k < nq S) (hn : nms S = []) (hl : s.length ≤ 18) : ∃ row, evm (d + 3) 196 [aR (60, k, n), aI 0, aI (N s.length)] S = some (.inl (some (aR (60, nq S, s.length))), (setRow (mk S (60, nq S, s.length) (nq S + 1) (nms S) s.length).1 (60, nq S, s.length) row, (mk S (60, nq S, s.length) (nq S + 1) (nms S) s.length).2)) ∧ ∀ i, i < s.length → row i = N (s.getD i 0) := by
  obtain ⟨h1, h2, h3, h4, h5, h6⟩ := hT
  have hK : kOf (60, k, n) = .inr (.byte, n) := rfl
  by_cases h : s.length = n
  · subst h
    refine ⟨S.1 (60, k, s.length), ?_, fun i hi => (h6 i hi).1⟩
    simp only [m196, s196_0, s196_1, s196_4, s196_5, s196_6, s196_7, s196_17, s196_24, s196_24N, kN, hK, n196_18 hn, n196_21, if_false, if_true, ck_v, ck_x, Option.toList, List.cons_append, List.nil_append, kil_nil, N_1, o10, o00, exN_0, exN_1, exN_2, exN_3, exN_4, exN_5, Ex]
  · have hne : (N s.length = N n) = False := by
      rw [N_inj (by omega) (by omega)]
      exact eq_false h
    have hkq : ((60, k, n) : OId) ≠ (60, nq S, s.length) := fun q => by
      have := congrArg (fun p : OId => p.2.1) q
      simp only at this
      omega
    have z1 : ((0 : Int32) ≤ N s.length) = True := (N_le (a := 0) (by omega) (by omega)).trans (eq_true (Nat.zero_le _))
    have sz : ∀ x : Int32, x - 0 = x := fun x => by simp
    have hlt : (N s.length < N n) = True := N_lt1 (by omega) (by omega)
    have i10 : insAt 197 10 = some (.newarray .byte, 2, (0, 0, 0, 0), 0) := rfl
    have hab := acp_b (S := mk S (60, nq S, s.length) (nq S + 1) (nms S) s.length) hkq h3 (Nat.le_refl _) (show s.length < 2147483648 by omega)
    refine ⟨va_cpy (agB (mk S (60, nq S, s.length) (nq S + 1) (nms S) s.length) (60, k, n)) ((mk S (60, nq S, s.length) (nq S + 1) (nms S) s.length).1 (60, nq S, s.length)) 0 0 s.length, ?_, ?_⟩
    · simp only [m196, s196_0, s196_1, s196_4, s196_5, s196_6, s196_7, s196_10, s196_11, s196_12, s196_13, s196_16, s196_16N, s196_24, s196_24N, m197, s197_0, s197_1, s197_2, s197_5, s197_6, s197_7, s197_8, s197_9, s197_12, s197_14, s197_15, s197_16, s197_18, s197_19, s197_20, s197_21, s197_22, s197_23, s197_24, s197_27, s197_30, s197_32, s197_32N, m198, s198_0, s198_1, s198_2, s198_37, kN, hK, hne, z1, sz, hlt, ev_nab (pc' := 12) i10 rfl (show s.length ≤ 65536 by omega), hab, kA, if_false, if_true, ck_v, ck_x, Option.toList, List.cons_append, List.nil_append, kil_nil, N_1, o10, o00, exN_0, exN_1, exN_2, exN_3, exN_4, exN_5, Ex]
      all_goals try rfl
    · intro i hi
      have e8 : agB (mk S (60, nq S, s.length) (nq S + 1) (nms S) s.length) (60, k, n) i = by8 (S.1 (60, k, n) i) := by
        show by8 ((mk S (60, nq S, s.length) (nq S + 1) (nms S) s.length).1 (60, k, n) i) = _
        rw [mk_I hkq]
      show va_cpy (agB (mk S (60, nq S, s.length) (nq S + 1) (nms S) s.length) (60, k, n)) ((mk S (60, nq S, s.length) (nq S + 1) (nms S) s.length).1 (60, nq S, s.length)) 0 0 s.length i = _
      unfold va_cpy
      rw [if_pos (by omega), Nat.zero_add, Nat.sub_zero, e8, (h6 i hi).1, by8_tab _ (h6 i hi).2]
end TEXT4
