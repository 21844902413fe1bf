/-! THE METHODS' MEANING: text, numbers are written -/
def wr2 (I : OId → Nat → Int32) (b : OId) (p w : Nat) : OId → Nat → Int32 := setI (setI I b (p - 1) (N (48 + w % 10))) b (p - 1 - 1) (N (48 + w / 10))
def wrD (I : OId → Nat → Int32) (b : OId) (p v : Nat) : OId → Nat → Int32 := if v < 10 then setI I b (p - 1) (N (48 + v % 10)) else if v < 100 then wr2 I b p v else if v < 1000 then setI (wr2 I b p (v % 100)) b (p - 1 - 1 - 1) (N (48 + v / 100 % 10)) else wr2 (wr2 I b p (v % 100)) b (p - 1 - 1) (v / 100)
section TEXT3
variable {d k n : Nat} {j t : Nat} {S : SS} {s : List Nat}
theorem N_m1 {p : Nat} (h : 1 ≤ p) : N p + (-1) = N (p - 1) := by
  have e : N p = N (p - 1) + 1 := by rw [N_1, show p - 1 + 1 = p by omega]
  rw [e, Int32.add_assoc, show (1 : Int32) + (-1) = 0 from rfl, Int32.add_zero]
theorem agB_46 {S : SS} {r : Nat} : agB S (46, 0, 0) r = N (48 + r % 10) := rfl
theorem agB_45 {S : SS} {r : Nat} : agB S (45, 0, 0) r = N (48 + r / 10) := rfl
theorem chars_ok {v p : Nat} {J : OId → Nat → Int32} (hv : v < 1400) (hp : (dg v).length ≤ p) (hpn : p ≤ n) (hn : n ≤ 40) : evm (d + 1) 189 [aI (N v), aI (N p), aR (60, k, n)] (J, S.2) = some (.inl (some (aI (N (p - (dg v).length)))), (wrD J (60, k, n) p v, S.2)) := by
  have hK : kOf (60, k, n) = .inr (.byte, n) := rfl
  have hK5 : kOf (45, 0, 0) = .inr (.byte, 100) := rfl
  have hK6 : kOf (46, 0, 0) = .inr (.byte, 100) := rfl
  have ro : isRo (60, k, n) = false := rfl
  have h100 : ¬ (100 : Int32) = 0 := by decide
  have hend : ∀ (w p' : Nat) (J : OId → Nat → Int32) (l1 l3 l4 : Option AV), w < 100 → (dg w).length ≤ p' → p' ≤ n → ev (evm d) 189 72 [some (aI (-(N w))), l1, some (aR (60, k, n)), l3, l4, some (aI (N p')), some (aI 0)] [] [] (J, S.2) = some (.inl (some (aI (N (p' - (dg w).length)))), (wrD J (60, k, n) p' w, S.2)) := by
    intro w p' J l1 l3 l4 hw hp' hpn'
    obtain ⟨-, -, -, -, t5, t6, t7, t8, t9, t10, t11⟩ := neg_tab w (by omega)
    have p6 := dP t6
    by_cases h10 : w < 10
    · have p6 := p6.trans (eq_true h10)
      have hd : dg w = [48 + w] := if_pos h10
      have hw : wrD J (60, k, n) p' w = setI J (60, k, n) (p' - 1) (N (48 + w % 10)) := if_pos h10
      rw [hd] at hp' ⊢
      have hp1 : 1 ≤ p' := hp'
      rw [hw]
      simp only [s189_0, s189_1, s189_3, s189_4, s189_7, s189_8, s189_11, s189_12, s189_14, s189_16, s189_19, s189_20, s189_21, s189_23, s189_25, s189_28, s189_29, s189_31, s189_32, s189_33, s189_34, s189_36, s189_37, s189_38, s189_39, s189_41, s189_42, s189_43, s189_44, s189_47, s189_49, s189_52, s189_54, s189_55, s189_56, s189_57, s189_60, s189_62, s189_65, s189_67, s189_68, s189_69, s189_72, s189_73, s189_76, s189_78, s189_81, s189_82, s189_83, s189_84, s189_85, s189_86, s189_88, s189_91, s189_92, s189_95, s189_97, s189_100, s189_101, s189_102, s189_103, s189_104, s189_106, s189_109, s189_110, s189_113, s189_115, s189_117, s189_118, s189_120, N_m1 hp1, t9, p6, kB, kBw, hK, hK6, ro, inB_N (show w < 100 by omega) (by omega), inB_N (show p' - 1 < n by omega) (by omega), N_cl (show w < 2147483648 by omega), N_cl (show p' - 1 < 2147483648 by omega), agB_46, if_false, if_true, ck_v, ck_x, Option.toList, List.cons_append, List.nil_append, kil_nil, N_1, o10, o00, exN_0, exN_1, exN_2, exN_3, exN_4, exN_5, Ex, and_self]
      rfl
    · have p6 := p6.trans (eq_false h10)
      have hd : dg w = [48 + w / 10, 48 + w % 10] := by
        unfold dg
        rw [if_neg h10, if_pos (by omega)]
      have hw : wrD J (60, k, n) p' w = wr2 J (60, k, n) p' w := by
        unfold wrD
        rw [if_neg h10, if_pos (by omega)]
      rw [hd] at hp' ⊢
      have hp2 : 2 ≤ p' := hp'
      rw [hw]
      simp only [s189_0, s189_1, s189_3, s189_4, s189_7, s189_8, s189_11, s189_12, s189_14, s189_16, s189_19, s189_20, s189_21, s189_23, s189_25, s189_28, s189_29, s189_31, s189_32, s189_33, s189_34, s189_36, s189_37, s189_38, s189_39, s189_41, s189_42, s189_43, s189_44, s189_47, s189_49, s189_52, s189_54, s189_55, s189_56, s189_57, s189_60, s189_62, s189_65, s189_67, s189_68, s189_69, s189_72, s189_73, s189_76, s189_78, s189_81, s189_82, s189_83, s189_84, s189_85, s189_86, s189_88, s189_91, s189_92, s189_95, s189_97, s189_100, s189_101, s189_102, s189_103, s189_104, s189_106, s189_109, s189_110, s189_113, s189_115, s189_117, s189_118, s189_120, N_m1 (show 1 ≤ p' by omega), N_m1 (show 1 ≤ p' - 1 by omega), t9, p6, kB, kBw, hK, hK6, hK5, ro, inB_N (show w < 100 by omega) (by omega), inB_N (show p' - 1 < n by omega) (by omega), inB_N (show p' - 1 - 1 < n by omega) (by omega), N_cl (show w < 2147483648 by omega), N_cl (show p' - 1 < 2147483648 by omega), N_cl (show p' - 1 - 1 < 2147483648 by omega), agB_46, agB_45, if_false, if_true, ck_v, ck_x, Option.toList, List.cons_append, List.nil_append, kil_nil, N_1, o10, o00, exN_0, exN_1, exN_2, exN_3, exN_4, exN_5, Ex, and_self]
      rfl
  obtain ⟨-, -, -, -, t5, t6, t7, t8, t9, t10, t11⟩ := neg_tab v hv
  have p5 := dP t5
  have p10 : (0 ≤ N v) = True := eq_true (of_decide_eq_true t10)
  have hst : evm (d + 1) 189 [aI (N v), aI (N p), aR (60, k, n)] (J, S.2) = ev (evm d) 189 22 [some (aI (-(N v))), some (aI (N p)), some (aR (60, k, n)), none, none, some (aI (N p)), some (aI 0)] [] [] (J, S.2) := by
    rw [m189]
    simp only [s189_0, s189_1, s189_3, s189_4, s189_7, s189_8, s189_11, s189_12, s189_14, s189_16, s189_19, s189_20, s189_21, s189_23, s189_25, s189_28, s189_29, s189_31, s189_32, s189_33, s189_34, s189_36, s189_37, s189_38, s189_39, s189_41, s189_42, s189_43, s189_44, s189_47, s189_49, s189_52, s189_54, s189_55, s189_56, s189_57, s189_60, s189_62, s189_65, s189_67, s189_68, s189_69, s189_72, s189_73, s189_76, s189_78, s189_81, s189_82, s189_83, s189_84, s189_85, s189_86, s189_88, s189_91, s189_92, s189_95, s189_97, s189_100, s189_101, s189_102, s189_103, s189_104, s189_106, s189_109, s189_110, s189_113, s189_115, s189_117, s189_118, s189_120, p10, if_false, if_true, ck_v, ck_x, Option.toList, List.cons_append, List.nil_append, kil_nil, N_1, o10, o00, exN_0, exN_1, exN_2, exN_3, exN_4, exN_5, Ex]
  rw [hst, s189_22]
  by_cases h100 : v < 100
  · have p5 := p5.trans (eq_true h100)
    simp only [s189_23, s189_25, p5, if_true]
    exact hend v p J _ _ _ h100 hp hpn
  · have p5 := p5.trans (eq_false h100)
    have hq : v / 100 < 100 := by omega
    obtain ⟨-, -, -, -, u5, -, -, -, -, -, -⟩ := neg_tab (v / 100) (by omega)
    have p5' := (dP u5).trans (eq_true hq)
    have hr : v % 100 < 100 := by omega
    have h2 : 2 ≤ p := by
      unfold dg at hp
      rw [if_neg (by omega), if_neg h100] at hp
      split at hp <;> simp only [List.length_cons, List.length_nil] at hp <;> omega
    have hl : (dg v).length = (dg (v / 100)).length + 2 := by
      unfold dg
      rw [if_neg (show ¬ v < 10 by omega), if_neg h100]
      by_cases h1000 : v < 1000
      · rw [if_pos h1000, if_pos (show v / 100 < 10 by omega)]
        rfl
      · rw [if_neg h1000, if_neg (show ¬ v / 100 < 10 by omega), if_pos hq]
        rfl
    have h0 : ((100 : Int32) = 0) = False := by decide
    have hz : ¬ (100 : Int32) = 0 := by decide
    simp only [s189_23, s189_25, s189_28, s189_29, s189_31 hz, s189_32, s189_33, s189_34, s189_36, s189_37, s189_38, s189_39, s189_41, s189_42, s189_43, s189_44, s189_47, s189_49, s189_52, s189_54, s189_55, s189_56, s189_57, s189_60, s189_62, s189_65, s189_67, s189_68, s189_69, p5, t7, t8, N_m1 (show 1 ≤ p by omega), N_m1 (show 1 ≤ p - 1 by omega), kB, kBw, hK, hK6, hK5, ro, inB_N (show v % 100 < 100 by omega) (by omega), inB_N (show p - 1 < n by omega) (by omega), inB_N (show p - 1 - 1 < n by omega) (by omega), N_cl (show v % 100 < 2147483648 by omega), N_cl (show p - 1 < 2147483648 by omega), N_cl (show p - 1 - 1 < 2147483648 by omega), agB_46, agB_45, if_false, if_true, ck_v, ck_x, Option.toList, List.cons_append, List.nil_append, kil_nil, N_1, o10, o00, exN_0, exN_1, exN_2, exN_3, exN_4, exN_5, Ex, and_self]
    rw [s189_22]
    simp only [s189_23, s189_25, p5', if_true]
    refine (hend (v / 100) (p - 1 - 1) _ _ _ _ hq (by omega) (by omega)).trans ?_
    have e1 : p - 1 - 1 - (dg (v / 100)).length = p - (dg v).length := by omega
    have e2 : wrD (setI (setI J (60, k, n) (p - 1) (N (48 + v % 100 % 10))) (60, k, n) (p - 1 - 1) (N (48 + v % 100 / 10))) (60, k, n) (p - 1 - 1) (v / 100) = wrD J (60, k, n) p v := by
      unfold wrD
      rw [if_neg (show ¬ v < 10 by omega), if_neg h100]
      by_cases h1000 : v < 1000
      · rw [if_pos h1000, if_pos (show v / 100 < 10 by omega)]
        rfl
      · rw [if_neg h1000, if_neg (show ¬ v / 100 < 10 by omega), if_pos hq]
        rfl
    rw [e1, e2]
theorem wrD_o {J : OId → Nat → Int32} {b x : OId} {p v : Nat} (h : x ≠ b) : wrD J b p v x = J x := by
  unfold wrD wr2
  split
  · exact setI_o h
  · split
    · exact (setI_o h).trans (setI_o h)
    · split
      · exact (setI_o h).trans ((setI_o h).trans (setI_o h))
      · exact (setI_o h).trans ((setI_o h).trans ((setI_o h).trans (setI_o h)))
theorem dg_pos (v : Nat) : 1 ≤ (dg v).length := by
  unfold dg
  repeat' split
  all_goals
    simp only [List.length_cons, List.length_nil]
    omega
theorem dg_len (v : Nat) : (dg v).length ≤ 4 := by
  unfold dg
  repeat' split
  all_goals
    simp only [List.length_cons, List.length_nil]
    omega
theorem wrD_lo {J : OId → Nat → Int32} {b : OId} {p v i : Nat} (hp : (dg v).length ≤ p) (hi : i < p - (dg v).length) : wrD J b p v b i = J b i := by
  unfold wrD wr2
  unfold dg at hp hi
  split
  · rename_i h
    rw [if_pos h] at hi hp
    simp only [List.length_cons, List.length_nil] at hi hp
    rw [setI_k (by omega)]
  · rename_i h
    rw [if_neg h] at hi hp
    split
    · rename_i h2
      rw [if_pos h2] at hi hp
      simp only [List.length_cons, List.length_nil] at hi hp
      rw [setI_k (by omega), setI_k (by omega)]
    · rename_i h2
      rw [if_neg h2] at hi hp
      split
      · rename_i h3
        rw [if_pos h3] at hi hp
        simp only [List.length_cons, List.length_nil] at hi hp
        rw [setI_k (by omega), setI_k (by omega), setI_k (by omega)]
      · rename_i h3
        rw [if_neg h3] at hi hp
        simp only [List.length_cons, List.length_nil] at hi hp
        rw [setI_k (by omega), setI_k (by omega), setI_k (by omega), setI_k (by omega)]
theorem setI_i {I : OId → Nat → Int32} {o : OId} {k j : Nat} {v : Int32} : setI I o k v o j = if j = k then v else I o j := by
  show (if o = o ∧ j = k then _ else _) = _
  simp
theorem wrD_hi {J : OId → Nat → Int32} {b : OId} {p v i : Nat} (hp : (dg v).length ≤ p) (hi : i < (dg v).length) : wrD J b p v b (p - (dg v).length + i) = N ((dg v).getD i 0) := by
  unfold wrD wr2
  unfold dg at hp hi ⊢
  by_cases h1 : v < 10
  · simp only [if_pos h1, List.length_cons, List.length_nil] at hi hp ⊢
    obtain rfl : i = 0 := by omega
    rw [setI_i, if_pos (by omega), show v % 10 = v by omega]
    rfl
  · by_cases h2 : v < 100
    · simp only [if_neg h1, if_pos h2, List.length_cons, List.length_nil] at hi hp ⊢
      rcases (by omega : i = 0 ∨ i = 1) with rfl | rfl
      · rw [setI_i, if_pos (by omega)]
        rfl
      · rw [setI_i, if_neg (by omega), setI_i, if_pos (by omega)]
        rfl
    · by_cases h3 : v < 1000
      · simp only [if_neg h1, if_neg h2, if_pos h3, List.length_cons, List.length_nil] at hi hp ⊢
        rcases (by omega : i = 0 ∨ i = 1 ∨ i = 2) with rfl | rfl | rfl
        · rw [setI_i, if_pos (by omega), show v / 100 % 10 = v / 100 by omega]
          rfl
        · rw [setI_i, if_neg (by omega), setI_i, if_pos (by omega)]
          rfl
        · rw [setI_i, if_neg (by omega), setI_i, if_neg (by omega), setI_i, if_pos (by omega)]
          rfl
      · simp only [if_neg h1, if_neg h2, if_neg h3, List.length_cons, List.length_nil] at hi hp ⊢
        rcases (by omega : i = 0 ∨ i = 1 ∨ i = 2 ∨ i = 3) with rfl | rfl | rfl | rfl
        · rw [setI_i, if_pos (by omega)]
          rfl
        · rw [setI_i, if_neg (by omega), setI_i, if_pos (by omega)]
          rfl
        · rw [setI_i, if_neg (by omega), setI_i, if_neg (by omega), setI_i, if_pos (by omega)]
          rfl
        · rw [setI_i, if_neg (by omega), setI_i, if_neg (by omega), setI_i, if_neg (by omega), setI_i, if_pos (by omega)]
          rfl
theorem dg_128 {v i : Nat} (hv : v < 1400) (hi : i < (dg v).length) : (dg v).getD i 0 < 128 := by
  unfold dg at hi ⊢
  by_cases h1 : v < 10
  · simp only [if_pos h1, List.length_cons, List.length_nil] at hi ⊢
    obtain rfl : i = 0 := by omega
    show 48 + v < 128
    omega
  · by_cases h2 : v < 100
    · simp only [if_neg h1, if_pos h2, List.length_cons, List.length_nil] at hi ⊢
      rcases (by omega : i = 0 ∨ i = 1) with rfl | rfl
      · show 48 + v / 10 < 128
        omega
      · show 48 + v % 10 < 128
        omega
    · by_cases h3 : v < 1000
      · simp only [if_neg h1, if_neg h2, if_pos h3, List.length_cons, List.length_nil] at hi ⊢
        rcases (by omega : i = 0 ∨ i = 1 ∨ i = 2) with rfl | rfl | rfl
        · show 48 + v / 100 < 128
          omega
        · show 48 + v % 100 / 10 < 128
          omega
        · show 48 + v % 100 % 10 < 128
          omega
      · simp only [if_neg h1, if_neg h2, if_neg h3, List.length_cons, List.length_nil] at hi ⊢
        rcases (by omega : i = 0 ∨ i = 1 ∨ i = 2 ∨ i = 3) with rfl | rfl | rfl | rfl
        · show 48 + v / 100 / 10 < 128
          omega
        · show 48 + v / 100 % 10 < 128
          omega
        · show 48 + v % 100 / 10 < 128
          omega
        · show 48 + v % 100 % 10 < 128
          omega
theorem getD_app2 {s r : List Nat} {i : Nat} : (s ++ r).getD i 0 = if i < s.length then s.getD i 0 else r.getD (i - s.length) 0 := by
  split
  · rename_i h
    rw [List.getD_eq_getElem?_getD, List.getElem?_append_left h, List.getD_eq_getElem?_getD]
  · rename_i h
    rw [List.getD_eq_getElem?_getD, List.getElem?_append_right (by omega), List.getD_eq_getElem?_getD]
theorem int_ok {v : Nat} (hT : TX S (1, j, t) k n s) (hk : k < nq S) (hn : nms S = []) (hv : v < 1400) (hl : s.length + (dg v).length ≤ 18) : ∃ S', evm (d + 5) 186 [aR (1, j, t), aI (N v)] S = some (.inl (some (aR (1, j, t))), S') ∧ AQ (1, j, t) k 1 S S' (s ++ dg v) := by
  obtain ⟨S1, e1, hA, k1, n1, hk1, hk2, hT1, hm⟩ := room_ok (d := d) (m := s.length + (dg v).length) hT hk hn (by omega) (by omega)
  have hT1' := hT1
  obtain ⟨a1, a2, a3, a4, a5, a6⟩ := hT1'
  have hlen : (s ++ dg v).length = s.length + (dg v).length := List.length_append
  have ho : ((1, j, t) : OId) ≠ (60, k1, n1) := by simp
  have hW := TX.write (S := S1) (s' := s ++ dg v) (I' := setI (wrD S1.1 (60, k1, n1) (s.length + (dg v).length) v) (1, j, t) 3 (N (s.length + (dg v).length))) hT1 hk2 hA.2.2.1 (by omega) (by
      rw [setI_k (by decide), wrD_o ho, a4]) (by
      rw [setI_y, hlen]) (fun i hi => by
      rw [setI_o ho.symm, getD_app2]
      rw [hlen] at hi
      split
      · rename_i h
        rw [wrD_lo (by omega) (by omega)]
        exact a6 i h
      · rename_i h
        have e9 : i = s.length + (dg v).length - (dg v).length + (i - s.length) := by omega
        refine ⟨?_, dg_128 hv (by omega)⟩
        have := wrD_hi (J := S1.1) (b := (60, k1, n1)) (p := s.length + (dg v).length) (v := v) (i := i - s.length) (by omega) (by omega)
        rw [← e9] at this
        exact this) (fun x x1 x2 => by
      rw [setI_o x1]
      exact wrD_o x2)
  refine ⟨_, ?_, AQ.trans hA hk1 hW⟩
  have e187 : evm (d + 4) 187 [aR (1, j, t), aI (N v)] S = some (.inl (some (aR (1, j, t))), (setI (wrD S1.1 (60, k1, n1) (s.length + (dg v).length) v) (1, j, t) 3 (N (s.length + (dg v).length)), S1.2)) := by
    have ec := chars_ok (d := d + 2) (k := k1) (n := n1) (S := S1) (J := S1.1) (p := s.length + (dg v).length) hv (by omega) hm a2.2
    have ec' : evm (d + 3) 189 [aI (N v), aI (N (s.length + (dg v).length)), aR (60, k1, n1)] S1 = _ := ec
    simp only [m187, s187_0, s187_1, s187_4, s187_5, s187_6, s187_7, s187_10, s187_11, s187_12, s187_13, s187_14, s187_17, s187_18, s187_21, s187_24, s187_25, s187_26, s187_27, s187_30, s187_33, s187_34, s187_37, s187_38, s187_39, s187_40, s187_41, s187_47, s187_48, s187_49, s187_50, s187_53, s187_54, s187_54N, hT.2.2.2.2.1, size_ok188 hv, N_add, e1, isLatin_ok hT1, a1, ec', if_false, if_true, ck_v, ck_x, Option.toList, List.cons_append, List.nil_append, kil_nil, N_1, o10, o00, exN_0, exN_1, exN_2, exN_3, exN_4, exN_5, Ex]
  simp only [m186, s186_0, s186_1, s186_2, s186_5, s186_6, s186_7, s186_7N, e187, if_false, if_true, ck_v, ck_x, Option.toList, List.cons_append, List.nil_append, kil_nil, N_1, o10, o00, exN_0, exN_1, exN_2, exN_3, exN_4, exN_5, Ex]
end TEXT3
