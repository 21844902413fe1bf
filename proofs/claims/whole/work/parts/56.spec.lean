/-! THE METHODS' MEANING: what is kept, and the model's rows -/
/-- k places of row a from s on are laid over those of row b from t on -/
def cpk (I : OId → Nat → Int32) (b a : OId) (t s k : Nat) : OId → Nat → Int32 := fun o f => if o = b ∧ t ≤ f ∧ f < t + k then I a (s + (f - t)) else I o f
abbrev cpy (I : OId → Nat → Int32) (b a : OId) (t s : Nat) : OId → Nat → Int32 := cpk I b a t s 106
theorem cpk_0 {I : OId → Nat → Int32} {b a : OId} {t s : Nat} : cpk I b a t s 0 = I := by
  funext o f
  unfold cpk
  rw [if_neg (fun q => by omega)]
theorem cpk_ne {I : OId → Nat → Int32} {b a o : OId} {t s k : Nat} (h : o ≠ b) : cpk I b a t s k o = I o := by
  funext f
  unfold cpk
  rw [if_neg (fun q => h q.1)]
theorem cpk_in {I : OId → Nat → Int32} {b a : OId} {t s k i : Nat} (h : i < k) : cpk I b a t s k b (t + i) = I a (s + i) := by
  unfold cpk
  rw [if_pos ⟨rfl, by omega, by omega⟩]
  congr 1
  omega
theorem cpk_out {I : OId → Nat → Int32} {b a : OId} {t s k i : Nat} (h : i < t ∨ t + k ≤ i) : cpk I b a t s k b i = I b i := by
  unfold cpk
  rw [if_neg (fun q => by omega)]
theorem cpk_s {I : OId → Nat → Int32} {b a : OId} {t s k : Nat} : setI (cpk I b a t s k) b (t + k) (I a (s + k)) = cpk I b a t s (k + 1) := by
  funext o f
  unfold setI
  by_cases hq : o = b ∧ f = t + k
  · obtain ⟨rfl, rfl⟩ := hq
    rw [if_pos ⟨rfl, rfl⟩]
    exact (cpk_in (Nat.lt_succ_self k)).symm
  · rw [if_neg hq]
    unfold cpk
    have hcc : (o = b ∧ t ≤ f ∧ f < t + k) = (o = b ∧ t ≤ f ∧ f < t + (k + 1)) := propext ⟨fun q => ⟨q.1, q.2.1, by omega⟩, fun q => ⟨q.1, q.2.1, by
      have h1 : ¬ f = t + k := fun e => hq ⟨q.1, e⟩
      omega⟩⟩
    simp only [hcc]
theorem kIx {o : OId} {n i : Nat} {r : Option Out} (hk : kOf o = .inr (.int, n)) (hi : i < n) (hn : n < 2147483648) : kI o (N i) r = r := by
  simp only [kI, hk, inB_N hi hn, if_true]
theorem kIwx {o : OId} {n i : Nat} {r : Option Out} (hk : kOf o = .inr (.int, n)) (hro : isRo o = false) (hi : i < n) (hn : n < 2147483648) : kIw o (N i) r = r := by
  simp only [kIw, hk, hro, inB_N hi hn, and_self, if_true]
section KEEP
variable {d : Nat} {I : OId → Nat → Int32} {M R : OId → Nat → AV} {G : SG} {B : Bk}
theorem copies_ok {a b m : OId} {na nb s t : Nat} (ka : kOf a = .inr (.int, na)) (kb : kOf b = .inr (.int, nb)) (rb : isRo b = false) (ga : ∀ (S : SS) k, agI S a k = S.1 a k) (hne : a ≠ b) (hs : s + 106 ≤ na) (ht : t + 106 ≤ nb) (hna : na < 2147483648) (hnb : nb < 2147483648) : evm (d + 1) 218 [aR m, aR a, aI (N s), aR b, aI (N t)] (I, M, R, G) = some (.inl none, (cpy I b a t s, M, R, G)) := by
  rw [m218]
  simp only [s218_0, s218_1, kil_nil]
  have hst : ∀ k, k < 106 → ev (evm d) 218 3 [some (aR m), some (aR a), some (aI (N s)), some (aR b), some (aI (N t)), some (aI (N k))] [] [] (cpk I b a t s k, M, R, G) = ev (evm d) 218 3 [some (aR m), some (aR a), some (aI (N s)), some (aR b), some (aI (N t)), some (aI (N (k + 1)))] [] [] (cpk I b a t s (k + 1), M, R, G) := by
    intro k hk
    have hg : (106 ≤ N k) = False := N_ge (a := k) (b := 106) hk (by decide)
    rw [s218_3]
    simp only [m218, s218_0, s218_1, s218_5, s218_7, s218_10, s218_11, s218_13, s218_15, s218_16, s218_17, s218_18, s218_20, s218_21, s218_22, s218_23, s218_26, s218_29, hg, N_add, kIx ka (show s + k < na by omega) hna, kIwx kb rb (show t + k < nb by omega) hnb, N_cl (show s + k < 2147483648 by omega), N_cl (show t + k < 2147483648 by omega), ga, cpk_ne hne, cpk_s, if_false, if_true, ck_v, ck_x, Option.toList, List.cons_append, List.nil_append, kil_nil, N_1, o10, o00, exN_0, exN_1, exN_2, exN_3, exN_4, exN_5, Ex]
  have e0 : ev (evm d) 218 3 [some (aR m), some (aR a), some (aI (N s)), some (aR b), some (aI (N t)), some (aI (N 0))] [] [] (I, M, R, G) = ev (evm d) 218 3 [some (aR m), some (aR a), some (aI (N s)), some (aR b), some (aI (N t)), some (aI (N 0))] [] [] (cpk I b a t s 0, M, R, G) := by rw [cpk_0]
  refine e0.trans ?_
  refine (iter (f := fun k => ev (evm d) 218 3 [some (aR m), some (aR a), some (aI (N s)), some (aR b), some (aI (N t)), some (aI (N k))] [] [] (cpk I b a t s k, M, R, G)) hst).trans ?_
  have hg : (106 ≤ N 106) = True := N_ge1 (a := 106) (b := 106) (Nat.le_refl _) (by decide)
  rw [s218_3]
  simp only [m218, s218_0, s218_1, s218_5, s218_7, s218_10, s218_11, s218_13, s218_15, s218_16, s218_17, s218_18, s218_20, s218_21, s218_22, s218_23, s218_26, s218_29, hg, if_true]
theorem pastAt_ok {p : Nat} (hR : RF R) (hp : p < 6) : evm (d + 1) 60 [aR (5, 0, 0), aI (N p)] (I, M, R, G) = some (.inl (some (aR (4, p + 1, 0))), (I, M, R, G)) := by
  have hk : kOf (25, 0, 0) = .inr (kBk, 6) := rfl
  have e : (N p < 6) = True := N_lt1 (a := p) (b := 6) hp (by decide)
  have e' : (Int32.ofNat 6 ≤ N p) = False := N_ge (a := p) (b := 6) hp (by decide)
  simp only [m60, s60_0, s60_1, s60_4, s60_5, s60_6, s60_9, s60_10, s60_13, s60_14, s60_17, s60_18, s60_19, s60_22, s60_23, s60_23N, hR.2.2.2.1.1, kN, hk, kQ, N_neg (a := p) (show p < 2147483648 by omega), e', if_false, inB_N hp (by decide), if_true, N_cl (show p < 2147483648 by omega), hR.2.2.2.1.2 p hp]
/-- the ring's place behind p -/
def rnx (p : Nat) : Nat := if 5 ≤ p then 0 else p + 1
def rpv (p : Nat) : Nat := if p = 0 then 5 else p - 1
def kpI (I : OId → Nat → Int32) (p c n : Nat) : OId → Nat → Int32 := setI (setI (tk4 I (p + 1) 0 n) (5, 0, 0) 1 (N (rnx p))) (5, 0, 0) 2 (N (if c < 6 then c + 1 else 6))
theorem keep_ok {p c : Nat} (hR : RF R) (hp : p < 6) (hc : c ≤ 6) (h1 : I (5, 0, 0) 1 = N p) (h2 : I (5, 0, 0) 2 = N c) (hn : I (4, 0, 0) 7 = N (vn B.1)) (h7 : vn B.1 ≤ 7) : evm (d + 3) 59 [aR (5, 0, 0), aR (4, 0, 0)] (I, M, R, G) = some (.inl none, (kpI I p c (vn B.1), M, R, G)) := by
  have f5 : tk4 I (p + 1) 0 (vn B.1) (5, 0, 0) = I (5, 0, 0) := tk4_fr (fun q => by have := q.2; simp at this)
  have e6 : (6 < N (c + 1)) = (6 < c + 1) := N_lt (a := 6) (by decide) (by omega)
  have n1 : ∀ x, setI (tk4 I (p + 1) 0 (vn B.1)) (5, 0, 0) 1 x (5, 0, 0) 2 = N c := fun x => by
    rw [setI_at, f5, h2]
    simp
  have e5 : (N p < 5) = (p < 5) := N_lt (b := 5) (by omega) (by decide)
  have e0 : N 0 = 0 := rfl
  have e66 : N 6 = 6 := rfl
  by_cases hp5 : p < 5
  · have e : rnx p = p + 1 := by unfold rnx; rw [if_neg (by omega)]
    by_cases hc6 : c < 6
    · have h66 : ¬ 6 < c + 1 := by omega
      simp only [m59, s59_0, s59_1, s59_2, s59_5, s59_8, s59_9, s59_10, s59_10N, s59_13, s59_14, s59_15, s59_18, s59_19, s59_20, s59_23, s59_24, s59_27, s59_28, s59_31, s59_32, s59_35, s59_36, s59_37, s59_40, s59_41, s59_42, s59_45, s59_46, s59_47, s59_49, s59_52, s59_55, h1, pastAt_ok hR hp, takeB_ok hR (show p + 1 < 8 by omega) (show 0 < 8 by decide) (show 0 ≠ p + 1 by omega) hn h7, if_false, if_true, ck_v, ck_x, Option.toList, List.cons_append, List.nil_append, kil_nil, N_1, o10, o00, exN_0, exN_1, exN_2, exN_3, exN_4, exN_5, Ex, f5, n1, e5, hp5, kpI, e, hc6, e6, h66, ite_le]
    · have h66 : 6 < c + 1 := by omega
      simp only [m59, s59_0, s59_1, s59_2, s59_5, s59_8, s59_9, s59_10, s59_10N, s59_13, s59_14, s59_15, s59_18, s59_19, s59_20, s59_23, s59_24, s59_27, s59_28, s59_31, s59_32, s59_35, s59_36, s59_37, s59_40, s59_41, s59_42, s59_45, s59_46, s59_47, s59_49, s59_52, s59_55, h1, pastAt_ok hR hp, takeB_ok hR (show p + 1 < 8 by omega) (show 0 < 8 by decide) (show 0 ≠ p + 1 by omega) hn h7, if_false, if_true, ck_v, ck_x, Option.toList, List.cons_append, List.nil_append, kil_nil, N_1, o10, o00, exN_0, exN_1, exN_2, exN_3, exN_4, exN_5, Ex, f5, n1, e5, hp5, kpI, e, hc6, e6, h66, ite_le, e66]
  · have e : rnx p = 0 := by unfold rnx; rw [if_pos (by omega)]
    by_cases hc6 : c < 6
    · have h66 : ¬ 6 < c + 1 := by omega
      simp only [m59, s59_0, s59_1, s59_2, s59_5, s59_8, s59_9, s59_10, s59_10N, s59_13, s59_14, s59_15, s59_18, s59_19, s59_20, s59_23, s59_24, s59_27, s59_28, s59_31, s59_32, s59_35, s59_36, s59_37, s59_40, s59_41, s59_42, s59_45, s59_46, s59_47, s59_49, s59_52, s59_55, h1, pastAt_ok hR hp, takeB_ok hR (show p + 1 < 8 by omega) (show 0 < 8 by decide) (show 0 ≠ p + 1 by omega) hn h7, if_false, if_true, ck_v, ck_x, Option.toList, List.cons_append, List.nil_append, kil_nil, N_1, o10, o00, exN_0, exN_1, exN_2, exN_3, exN_4, exN_5, Ex, f5, n1, e5, hp5, kpI, e, hc6, e6, h66, ite_le, e0]
    · have h66 : 6 < c + 1 := by omega
      simp only [m59, s59_0, s59_1, s59_2, s59_5, s59_8, s59_9, s59_10, s59_10N, s59_13, s59_14, s59_15, s59_18, s59_19, s59_20, s59_23, s59_24, s59_27, s59_28, s59_31, s59_32, s59_35, s59_36, s59_37, s59_40, s59_41, s59_42, s59_45, s59_46, s59_47, s59_49, s59_52, s59_55, h1, pastAt_ok hR hp, takeB_ok hR (show p + 1 < 8 by omega) (show 0 < 8 by decide) (show 0 ≠ p + 1 by omega) hn h7, if_false, if_true, ck_v, ck_x, Option.toList, List.cons_append, List.nil_append, kil_nil, N_1, o10, o00, exN_0, exN_1, exN_2, exN_3, exN_4, exN_5, Ex, f5, n1, e5, hp5, kpI, e, hc6, e6, h66, ite_le, e66, e0]
def gbI (I : OId → Nat → Int32) (p c n : Nat) : OId → Nat → Int32 := tk4 (setI (setI I (5, 0, 0) 1 (N (rpv p))) (5, 0, 0) 2 (N (c - 1))) 0 (rpv p + 1) n
theorem giveBack_ok {p c n : Nat} (hR : RF R) (hp : p < 6) (hc : c ≤ 6) (hc0 : 0 < c) (h1 : I (5, 0, 0) 1 = N p) (h2 : I (5, 0, 0) 2 = N c) (hn : I (4, rpv p + 1, 0) 7 = N n) (h7 : n ≤ 7) : evm (d + 3) 210 [aR (5, 0, 0), aR (4, 0, 0)] (I, M, R, G) = some (.inl none, (gbI I p c n, M, R, G)) := by
  have n1 : ∀ x, setI I (5, 0, 0) 1 x (5, 0, 0) 2 = N c := fun x => by
    rw [setI_at, h2]
    simp
  have n2 : ∀ x y, setI (setI I (5, 0, 0) 1 x) (5, 0, 0) 2 y (5, 0, 0) 1 = x := fun x y => by
    rw [setI_at]
    simp [setI_at]
  have hr : rpv p < 6 := by unfold rpv; split <;> omega
  have n3 : ∀ x y, setI (setI I (5, 0, 0) 1 x) (5, 0, 0) 2 y (4, rpv p + 1, 0) 7 = N n := fun x y => by
    rw [setI_ne (by simp), setI_ne (by simp)]
    exact hn
  have ec : N c - 1 = N (c - 1) := by
    have h9 : N (c - 1) + 1 = N c := by
      rw [N_1]
      exact congrArg N (by omega)
    rw [← h9]
    grind
  have e5 : N 5 = 5 := rfl
  by_cases hp0 : p = 0
  · subst hp0
    have e : rpv 0 = 5 := rfl
    have hle : ((0 : Int32) < 0) = False := by simp
    simp only [m210, s210_0, s210_1, s210_2, s210_5, s210_8, s210_9, s210_12, s210_13, s210_16, s210_17, s210_18, s210_21, s210_22, s210_23, s210_26, s210_27, s210_28, s210_31, s210_32, s210_33, s210_36, s210_39, s210_40, s210_41, s210_41N, s210_44, s210_45, s210_46, s210_49, h1, N_0, ite_le, hle, if_false, if_true, ck_v, ck_x, Option.toList, List.cons_append, List.nil_append, kil_nil, N_1, o10, o00, exN_0, exN_1, exN_2, exN_3, exN_4, exN_5, Ex, n1, ec, n2, pastAt_ok (p := 5) hR (by decide), gbI, e, e5]
    rw [e] at n3
    simp only [← e5, pastAt_ok (p := 5) hR (by decide), takeB_ok hR (show 0 < 8 by decide) (show 5 + 1 < 8 by decide) (show 5 + 1 ≠ 0 by decide) (n3 _ _) h7, if_false, if_true, ck_v, ck_x, Option.toList, List.cons_append, List.nil_append, kil_nil, N_1, o10, o00, exN_0, exN_1, exN_2, exN_3, exN_4, exN_5, Ex, m210, s210_0, s210_1, s210_2, s210_5, s210_8, s210_9, s210_12, s210_13, s210_16, s210_17, s210_18, s210_21, s210_22, s210_23, s210_26, s210_27, s210_28, s210_31, s210_32, s210_33, s210_36, s210_39, s210_40, s210_41, s210_41N, s210_44, s210_45, s210_46, s210_49]
  · have e : rpv p = p - 1 := by unfold rpv; rw [if_neg hp0]
    have ep : N p - 1 = N (p - 1) := by
      have h9 : N (p - 1) + 1 = N p := by
        rw [N_1]
        exact congrArg N (by omega)
      rw [← h9]
      grind
    have hlt : ((0 : Int32) < N p) = True := N_lt1 (a := 0) (by omega) (by omega)
    rw [e] at n3 hr
    simp only [m210, s210_0, s210_1, s210_2, s210_5, s210_8, s210_9, s210_12, s210_13, s210_16, s210_17, s210_18, s210_21, s210_22, s210_23, s210_26, s210_27, s210_28, s210_31, s210_32, s210_33, s210_36, s210_39, s210_40, s210_41, s210_41N, s210_44, s210_45, s210_46, s210_49, h1, ite_le, hlt, if_false, if_true, ck_v, ck_x, Option.toList, List.cons_append, List.nil_append, kil_nil, N_1, o10, o00, exN_0, exN_1, exN_2, exN_3, exN_4, exN_5, Ex, ep, n1, ec, n2, pastAt_ok hR hr, gbI, e, takeB_ok hR (show 0 < 8 by decide) (show p - 1 + 1 < 8 by omega) (show p - 1 + 1 ≠ 0 by omega) (n3 _ _) h7]
theorem save_ok {n : Nat} (hR : RF R) (hn : I (4, 0, 0) 7 = N n) (h7 : n ≤ 7) : evm (d + 3) 52 [aR (11, 0, 0)] (I, M, R, G) = some (.inl (some (aI (N n))), (setI (tk4 I 7 0 n) (11, 0, 0) 3 1, M, R, G)) := by
  have f4 : tk4 I 7 0 n (4, 0, 0) = I (4, 0, 0) := tk4_fr (fun q => by have := q.1; simp at this)
  simp only [m52, s52_0, s52_1, s52_4, s52_5, s52_8, s52_11, s52_12, s52_13, s52_16, s52_17, s52_20, s52_23, hR.o.1, hR.o.2.2.1, takeB_ok hR (show 7 < 8 by decide) (show 0 < 8 by decide) (show 0 ≠ 7 by decide) hn h7, if_false, if_true, ck_v, ck_x, Option.toList, List.cons_append, List.nil_append, kil_nil, N_1, o10, o00, exN_0, exN_1, exN_2, exN_3, exN_4, exN_5, Ex, or_true, setI_ne (show ((4, 0, 0) : OId) ≠ (11, 0, 0) by simp), f4, hn]
theorem restore_ok {n : Nat} (hR : RF R) (hn : I (4, 7, 0) 7 = N n) (h7 : n ≤ 7) (hs : bb (I (11, 0, 0) 3) = 1) : evm (d + 3) 212 [aR (11, 0, 0)] (I, M, R, G) = some (.inl (some (aI (N n))), (setI (tk4 I 0 7 n) (5, 0, 0) 2 0, M, R, G)) := by
  have f4 : tk4 I 0 7 n (4, 0, 0) 7 = N n := by simp [tk4, tk3, tk2, tk1, cpR, hn]
  simp only [m212, s212_0, s212_1, s212_4, s212_7, s212_10, s212_18, s212_19, s212_22, s212_23, s212_26, s212_29, s212_30, s212_33, s212_36, s212_37, s212_40, s212_43, m213, s213_0, s213_1, s213_2, s213_5, hR.o.1, hR.o.2.1, hR.o.2.2.1, hs, takeB_ok hR (show 0 < 8 by decide) (show 7 < 8 by decide) (show 7 ≠ 0 by decide) hn h7, if_false, if_true, ck_v, ck_x, Option.toList, List.cons_append, List.nil_append, kil_nil, N_1, o10, o00, exN_0, exN_1, exN_2, exN_3, exN_4, exN_5, Ex, setI_ne (show ((4, 0, 0) : OId) ≠ (5, 0, 0) by simp), f4]
theorem restore_no (hR : RF R) (hs : bb (I (11, 0, 0) 3) = 0) : evm (d + 1) 212 [aR (11, 0, 0)] (I, M, R, G) = Ex 1 (I, M, R, G) := by
  simp only [m212, s212_0, s212_1, s212_4, s212_7, s212_10, s212_18, s212_19, s212_22, s212_23, s212_26, s212_29, s212_30, s212_33, s212_36, s212_37, s212_40, s212_43, hs, if_false, if_true, ck_v, ck_x, Option.toList, List.cons_append, List.nil_append, kil_nil, N_1, o10, o00, exN_0, exN_1, exN_2, exN_3, exN_4, exN_5, Ex]
theorem undo_ok {p c n : Nat} (hR : RF R) (hp : p < 6) (hc : c ≤ 6) (hc0 : 0 < c) (h1 : I (5, 0, 0) 1 = N p) (h2 : I (5, 0, 0) 2 = N c) (hn : I (4, rpv p + 1, 0) 7 = N n) (h7 : n ≤ 7) : evm (d + 4) 209 [aR (11, 0, 0)] (I, M, R, G) = some (.inl (some (aI (N (c - 1)))), (gbI I p c n, M, R, G)) := by
  have e : gbI I p c n (5, 0, 0) 2 = N (c - 1) := by
    unfold gbI
    rw [tk4_fr (fun q => by have := q.2; simp at this), setI_at]
    simp
  have hne : ¬ N c = 0 := fun q => by
    rw [← N_0, N_inj (by omega) (by omega)] at q
    omega
  simp only [m209, s209_0, s209_1, s209_4, s209_7, s209_10, s209_13, s209_21, s209_22, s209_25, s209_26, s209_29, s209_32, s209_33, s209_36, s209_39, hR.o.1, hR.o.2.1, h2, hne, giveBack_ok hR hp hc hc0 h1 h2 hn h7, if_false, if_true, ck_v, ck_x, Option.toList, List.cons_append, List.nil_append, kil_nil, N_1, o10, o00, exN_0, exN_1, exN_2, exN_3, exN_4, exN_5, Ex, e]
theorem undo_no (hR : RF R) (h2 : I (5, 0, 0) 2 = 0) : evm (d + 1) 209 [aR (11, 0, 0)] (I, M, R, G) = Ex 1 (I, M, R, G) := by
  simp only [m209, s209_0, s209_1, s209_4, s209_7, s209_10, s209_13, s209_21, s209_22, s209_25, s209_26, s209_29, s209_32, s209_33, s209_36, s209_39, hR.o.2.1, h2, if_false, if_true, ck_v, ck_x, Option.toList, List.cons_append, List.nil_append, kil_nil, N_1, o10, o00, exN_0, exN_1, exN_2, exN_3, exN_4, exN_5, Ex]
end KEEP
