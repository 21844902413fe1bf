/-! THE METHODS' MEANING: text, room and numbers -/
section TEXT2
variable {d k n : Nat} {j t : Nat} {S : SS} {s : List Nat}
theorem room_ok {m : Nat} (hT : TX S (1, j, t) k n s) (hk : k < nq S) (hn : nms S = []) (hm : s.length ≤ m) (hm2 : m ≤ 18) : ∃ S', evm (d + 3) 176 [aR (1, j, t), aI (N m)] S = some (.inl none, S') ∧ AP (1, j, t) k 1 S S' ∧ ∃ k' n', (k' = k ∨ nq S ≤ k') ∧ k' < nq S' ∧ TX S' (1, j, t) k' n' s ∧ m ≤ n' := by
  have hT' := hT
  obtain ⟨h1, h2, h3, h4, h5, h6⟩ := hT'
  have e : by8 0 = 0 := rfl
  have hK : kOf (60, k, n) = .inr (.byte, n) := rfl
  have s1 := (shz_t n (by omega)).1
  have sl := sub_le m (by omega) n (by omega)
  by_cases hle : m ≤ n
  · refine ⟨S, ?_, ?_, k, n, Or.inl rfl, hk, hT, hle⟩
    · have slt := sl.trans (eq_true hle)
      simp only [m176, s176_0, s176_1, s176_4, s176_5, s176_6, s176_9, s176_10, s176_11, s176_12, s176_13, s176_14, s176_17, s176_18, s176_19, s176_22, s176_23, s176_24, s176_27, s176_28, s176_31, s176_32, s176_35, s176_38, h1, h4, e, kN, hK, s1, slt, if_false, if_true, ck_v, ck_x, Option.toList, List.cons_append, List.nil_append, kil_nil, N_1, o10, o00, exN_0, exN_1, exN_2, exN_3, exN_4, exN_5, Ex]
    · obtain ⟨a1, a2, a3, a4, a5, a6⟩ := AP.refl (o := (1, j, t)) (k := k) hn
      exact ⟨a1, a2, a3, by omega, by omega, a6⟩
  · have hc : (n = 16 ∧ m = 17) ∨ (n = 16 ∧ m = 18) ∨ (n = 17 ∧ m = 18) := by omega
    have slf := sl.trans (eq_false hle)
    have s2 := (shz_t (2 * n + 2) (by omega)).2
    have hkq : ((60, k, n) : OId) ≠ (60, nq S, 2 * n + 2) := fun q => by
      have := congrArg (fun p : OId => p.2.1) q
      simp only at this
      omega
    have ho1 : ((1, j, t) : OId) ≠ (60, nq S, 2 * n + 2) := fun q => by
      have := congrArg (fun p : OId => p.1) q
      simp only at this
      omega
    have mI4 : (mk S (60, nq S, 2 * n + 2) (nq S + 1) (nms S) (2 * n + 2)).1 (1, j, t) = S.1 (1, j, t) := mk_I ho1
    refine ⟨(setRow (mk S (60, nq S, 2 * n + 2) (nq S + 1) (nms S) (2 * n + 2)).1 (60, nq S, 2 * n + 2) (va_cpy (agB (mk S (60, nq S, 2 * n + 2) (nq S + 1) (nms S) (2 * n + 2)) (60, k, n)) (fun _ => 0) 0 0 n), setV (mk S (60, nq S, 2 * n + 2) (nq S + 1) (nms S) (2 * n + 2)).2.1 (1, j, t) 0 (aR (60, nq S, 2 * n + 2)), (mk S (60, nq S, 2 * n + 2) (nq S + 1) (nms S) (2 * n + 2)).2.2), ?_, ?_, nq S, 2 * n + 2, Or.inr (Nat.le_refl _), ?_, ?_, by omega⟩
    · simp only [m176, s176_0, s176_1, s176_4, s176_5, s176_6, s176_9, s176_10, s176_11, s176_12, s176_13, s176_14, s176_17, s176_18, s176_19, s176_22, s176_23, s176_24, s176_27, s176_28, s176_31, s176_32, s176_35, s176_38, h1, h4, e, kN, hK, s1, slf, grow177 hc hT, s2, copy179 (show n < 2 * n + 2 by omega) (show 2 * n + 2 ≤ 40 by omega) h2.1, if_neg hkq, if_false, if_true, ck_v, ck_x, Option.toList, List.cons_append, List.nil_append, kil_nil, N_1, o10, o00, exN_0, exN_1, exN_2, exN_3, exN_4, exN_5, Ex]
    · refine ⟨fun x x1 x2 x3 => ?_, by show nq S ≤ nq S + 1; omega, hn, Nat.le_refl _, ?_, rfl⟩
      · have hx : x ≠ (60, nq S, 2 * n + 2) := fun q => by
          have q1 := x2 (by rw [q])
          rw [q] at q1
          have := q1.2
          simp only at this
          omega
        refine ⟨?_, ?_, ?_⟩
        · exact (setRow_o hx).trans (mk_I hx)
        · exact (setV_o x1).trans (mk_M hx)
        · exact mk_R hx
      · show slo S + (2 * n + 2) ≤ slo S + 40 * 1
        omega
    · show nq S < nq S + 1
      omega
    · refine ⟨setV_y, by omega, by omega, ?_, ?_, ?_⟩
      · simp only [setRow_o ho1, mI4, h4]
      · simp only [setRow_o ho1, mI4, h5]
      · intro i hi
        refine ⟨?_, (h6 i hi).2⟩
        show (if ((60, nq S, 2 * n + 2) : OId) = (60, nq S, 2 * n + 2) then va_cpy (agB (mk S (60, nq S, 2 * n + 2) (nq S + 1) (nms S) (2 * n + 2)) (60, k, n)) (fun _ => 0) 0 0 n i else _) = _
        rw [if_pos rfl]
        have e9 : agB (mk S (60, nq S, 2 * n + 2) (nq S + 1) (nms S) (2 * n + 2)) (60, k, n) i = by8 (S.1 (60, k, n) i) := by
          show by8 ((mk S (60, nq S, 2 * n + 2) (nq S + 1) (nms S) (2 * n + 2)).1 (60, k, n) i) = _
          rw [mk_I hkq]
        have e8 : va_cpy (agB (mk S (60, nq S, 2 * n + 2) (nq S + 1) (nms S) (2 * n + 2)) (60, k, n)) (fun _ => 0) 0 0 n i = agB (mk S (60, nq S, 2 * n + 2) (nq S + 1) (nms S) (2 * n + 2)) (60, k, n) i := by
          unfold va_cpy
          rw [if_pos (by omega)]
          simp
        rw [e8, e9, (h6 i hi).1, by8_tab _ (h6 i hi).2]
/-- what is written into the builder and its array -/
theorem TX.write {I' : OId → Nat → Int32} {o : OId} {s' : List Nat} (hT : TX S o k n s) (hk : k < nq S) (hn : nms S = []) (hl : s'.length ≤ n) (h1 : I' o 1 = 0) (h3 : I' o 3 = N s'.length) (hb : ∀ i, i < s'.length → I' (60, k, n) i = N (s'.getD i 0) ∧ s'.getD i 0 < 128) (hF : ∀ x, x ≠ o → x ≠ (60, k, n) → I' x = S.1 x) : AQ o k 0 S (I', S.2) s' := by
  obtain ⟨a1, a2, -, -, -, -⟩ := hT
  refine ⟨⟨fun x x1 x2 _ => ⟨hF x x1 (fun q => ?_), rfl, rfl⟩, Nat.le_refl _, hn, Nat.le_refl _, Nat.le_refl _, rfl⟩, k, n, Or.inl rfl, hk, a1, a2, hl, h1, h3, hb⟩
  have := (x2 (by rw [q])).1
  rw [q] at this
  exact this rfl
theorem c_tab : ∀ c, c < 128 → (255 < N c) = False := by
  have h : ∀ c, c < 128 → decide (255 < N c) = false := by decide +kernel
  exact fun c hc => eq_false (of_decide_eq_false (h c hc))
theorem getD_app {c i : Nat} (hi : i < (s ++ [c]).length) : (s ++ [c]).getD i 0 = if i = s.length then c else s.getD i 0 := by
  rw [List.length_append, List.length_singleton] at hi
  split
  · rename_i h
    subst h
    rw [List.getD_eq_getElem?_getD, List.getElem?_append_right (Nat.le_refl _)]
    simp
  · rw [List.getD_eq_getElem?_getD, List.getElem?_append_left (by omega), List.getD_eq_getElem?_getD]
theorem chr_ok {c : Nat} (hT : TX S (1, j, t) k n s) (hk : k < nq S) (hn : nms S = []) (hl : s.length + 1 ≤ 18) (hc : c < 128) : ∃ S', evm (d + 5) 199 [aR (1, j, t), aI (N c)] S = some (.inl (some (aR (1, j, t))), S') ∧ AQ (1, j, t) k 1 S S' (s ++ [c]) := by
  obtain ⟨S1, e1, hA, k1, n1, hk1, hk2, hT1, hm⟩ := room_ok (d := d) (m := s.length + 1) hT hk hn (by omega) (by omega)
  obtain ⟨a1, a2, a3, a4, a5, a6⟩ := hT1
  have hlen : (s ++ [c]).length = s.length + 1 := by simp
  have ho : ((1, j, t) : OId) ≠ (60, k1, n1) := by simp
  have hK : kOf (60, k1, n1) = .inr (.byte, n1) := rfl
  have ro : isRo (60, k1, n1) = false := rfl
  have hW := TX.write (S := S1) (s' := s ++ [c]) (I' := setI (setI S1.1 (1, j, t) 3 (N (s.length + 1))) (60, k1, n1) s.length (N c)) ⟨a1, a2, a3, a4, a5, a6⟩ hk2 hA.2.2.1 (by omega) (by
      rw [setI_o ho]
      exact (setI_k (by decide)).trans a4) (by
      rw [setI_o ho, hlen]
      exact setI_y) (fun i hi => by
      rw [getD_app hi]
      rw [hlen] at hi
      split
      · rename_i h
        subst h
        exact ⟨setI_y, hc⟩
      · rename_i h
        rw [setI_k h]
        have hs : setI S1.1 (1, j, t) 3 (N (s.length + 1)) (60, k1, n1) = S1.1 (60, k1, n1) := setI_o ho.symm
        rw [hs]
        exact a6 i (by omega)) (fun x x1 x2 => by
      rw [setI_o x2]
      exact setI_o x1)
  refine ⟨_, ?_, AQ.trans hA hk1 hW⟩
  have hT1 : TX S1 (1, j, t) k1 n1 s := ⟨a1, a2, a3, a4, a5, a6⟩
  have e200 : evm (d + 4) 200 [aR (1, j, t), aI (N c)] S = some (.inl (some (aR (1, j, t))), (setI (setI S1.1 (1, j, t) 3 (N (s.length + 1))) (60, k1, n1) s.length (N c), S1.2)) := by
    simp only [m200, s200_0, s200_1, s200_2, s200_5, s200_6, s200_7, s200_10, s200_11, s200_14, s200_17, s200_18, s200_21, s200_24, s200_25, s200_28, s200_29, s200_30, s200_33, s200_34, s200_35, s200_36, s200_39, s200_40, s200_41, s200_42, s200_45, s200_46, s200_49, s200_52, s200_56, s200_57, s200_60, s200_61, s200_62, s200_65, s200_66, s200_67, s200_68, s200_71, s200_75, s200_76, s200_76N, m201, s201_0, s201_1, s201_4, s201_7, s201_8, s201_11, s201_12, hT.2.2.2.2.1, N_1, e1, isLatin_ok hT1, c_tab c hc, a1, a5, by8_tab c hc, kBw, hK, ro, inB_N (show s.length < n1 by omega) (by omega), N_cl (show s.length < 2147483648 by omega), if_false, if_true, ck_v, ck_x, Option.toList, List.cons_append, List.nil_append, kil_nil, N_1, o10, o00, exN_0, exN_1, exN_2, exN_3, exN_4, exN_5, Ex, and_self, or_true]
  simp only [m199, s199_0, s199_1, s199_2, s199_5, s199_6, s199_7, s199_7N, e200, if_false, if_true, ck_v, ck_x, Option.toList, List.cons_append, List.nil_append, kil_nil, N_1, o10, o00, exN_0, exN_1, exN_2, exN_3, exN_4, exN_5, Ex]
def dg (v : Nat) : List Nat := if v < 10 then [48 + v] else if v < 100 then [48 + v / 10, 48 + v % 10] else if v < 1000 then [48 + v / 100, 48 + v % 100 / 10, 48 + v % 100 % 10] else [48 + v / 100 / 10, 48 + v / 100 % 10, 48 + v % 100 / 10, 48 + v % 100 % 10]
theorem neg_tab : ∀ v, v < 1400 → decide (-(N v) ≤ -10) = decide (10 ≤ v) ∧ decide (-(N v) ≤ -100) = decide (100 ≤ v) ∧ decide (-(N v) ≤ -1000) = decide (1000 ≤ v) ∧ decide (-(N v) ≤ -10000) = false ∧ decide (-100 < -(N v)) = decide (v < 100) ∧ decide (-9 ≤ -(N v)) = decide (v < 10) ∧ (-(N v)) / 100 = -(N (v / 100)) ∧ (-(N (v / 100))) * 100 - (-(N v)) = N (v % 100) ∧ -(-(N v)) = N v ∧ decide (0 ≤ N v) = true ∧ decide (N v < 0) = false := by decide +kernel
theorem dP {p q : Prop} [Decidable p] [Decidable q] (h : decide p = decide q) : p = q := propext ⟨fun x => of_decide_eq_true (h ▸ decide_eq_true x), fun x => of_decide_eq_true (h.symm ▸ decide_eq_true x)⟩
theorem size_ok188 {v : Nat} (hv : v < 1400) : evm (d + 1) 188 [aI (N v)] S = some (.inl (some (aI (N (dg v).length))), S) := by
  obtain ⟨t1, t2, t3, t4, t5, t6, t7, t8, t9, t10, t11⟩ := neg_tab v hv
  have p1 := dP t1
  have p2 := dP t2
  have p3 := dP t3
  have p4 : (-(N v) ≤ -10000) = False := eq_false (of_decide_eq_false t4)
  have p5 : (N v < 0) = False := eq_false (of_decide_eq_false t11)
  have m1 : (10 : Int32) * (-10) = -100 := by decide
  have m2 : (10 : Int32) * (-100) = -1000 := by decide
  have m3 : (10 : Int32) * (-1000) = -10000 := by decide
  have c1 : ((10 : Int32) ≤ 1) = False := by decide
  have c2 : ((10 : Int32) ≤ 1 + 1) = False := by decide
  have c3 : ((10 : Int32) ≤ 1 + 1 + 1) = False := by decide
  have c4 : ((10 : Int32) ≤ 1 + 1 + 1 + 1) = False := by decide
  have h16 : ∀ p q : Int32, (10 ≤ q) = False → ev (evm d) 188 16 [some (aI (-(N v))), some (aI 0), some (aI p), some (aI q)] [] [] S = if -(N v) ≤ p then ev (evm d) 188 16 [some (aI (-(N v))), some (aI 0), some (aI (10 * p)), some (aI (q + 1))] [] [] S else some (.inl (some (aI (q + 0))), S) := by
    intro p q hq
    rw [s188_16]
    simp only [s188_0, s188_1, s188_2, s188_3, s188_6, s188_7, s188_8, s188_9, s188_10, s188_11, s188_13, s188_14, s188_15, s188_17, s188_19, s188_22, s188_23, s188_24, s188_27, s188_28, s188_29, s188_30, s188_31, s188_33, s188_34, s188_35, s188_36, s188_39, s188_42, s188_44, s188_45, s188_46, hq, if_false, kil_nil]
  have hst : evm (d + 1) 188 [aI (N v)] S = ev (evm d) 188 16 [some (aI (-(N v))), some (aI 0), some (aI (-10)), some (aI 1)] [] [] S := by
    rw [m188]
    simp only [s188_0, s188_1, s188_2, s188_3, s188_6, s188_7, s188_8, s188_9, s188_10, s188_11, s188_13, s188_14, s188_15, s188_17, s188_19, s188_22, s188_23, s188_24, s188_27, s188_28, s188_29, s188_30, s188_31, s188_33, s188_34, s188_35, s188_36, s188_39, s188_42, s188_44, s188_45, s188_46, p5, if_false, kil_nil]
  unfold dg
  by_cases h1 : 10 ≤ v
  · have p1 := p1.trans (eq_true h1)
    rw [if_neg (show ¬ v < 10 by omega)]
    by_cases h2 : 100 ≤ v
    · have p2 := p2.trans (eq_true h2)
      rw [if_neg (show ¬ v < 100 by omega)]
      by_cases h3 : 1000 ≤ v
      · have p3 := p3.trans (eq_true h3)
        rw [if_neg (show ¬ v < 1000 by omega)]
        rw [hst, h16 _ _ c1, if_pos (p1 ▸ trivial), h16 _ _ c2, m1, if_pos (p2 ▸ trivial), h16 _ _ c3, m2, if_pos (p3 ▸ trivial), h16 _ _ c4, m3, if_neg (p4 ▸ id)]
        rfl
      · have p3 := p3.trans (eq_false h3)
        rw [if_pos (show v < 1000 by omega)]
        rw [hst, h16 _ _ c1, if_pos (p1 ▸ trivial), h16 _ _ c2, m1, if_pos (p2 ▸ trivial), h16 _ _ c3, m2, if_neg (p3 ▸ id)]
        rfl
    · have p2 := p2.trans (eq_false h2)
      rw [if_pos (show v < 100 by omega)]
      rw [hst, h16 _ _ c1, if_pos (p1 ▸ trivial), h16 _ _ c2, m1, if_neg (p2 ▸ id)]
      rfl
  · have p1 := p1.trans (eq_false h1)
    rw [if_pos (show v < 10 by omega)]
    rw [hst, h16 _ _ c1, if_neg (p1 ▸ id)]
    rfl
end TEXT2
