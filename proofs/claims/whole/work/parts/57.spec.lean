/-! THE METHODS' MEANING: the model keeps, saves, goes back -/
def shf (I : OId → Nat → Int32) (k : Nat) : OId → Nat → Int32 := fun o f => if o = (37, 0, 0) ∧ f < k then I (37, 0, 0) (f + 106) else I o f
theorem shf_0 {I : OId → Nat → Int32} : shf I 0 = I := by
  funext o f
  unfold shf
  rw [if_neg (fun q => by omega)]
theorem shf_ne {I : OId → Nat → Int32} {k : Nat} {o : OId} (h : o ≠ (37, 0, 0)) : shf I k o = I o := by
  funext f
  unfold shf
  rw [if_neg (fun q => h q.1)]
theorem shf_hi {I : OId → Nat → Int32} {k i : Nat} (h : k ≤ i) : shf I k (37, 0, 0) i = I (37, 0, 0) i := by
  unfold shf
  rw [if_neg (fun q => by omega)]
theorem shf_lo {I : OId → Nat → Int32} {k i : Nat} (h : i < k) : shf I k (37, 0, 0) i = I (37, 0, 0) (i + 106) := by
  unfold shf
  rw [if_pos ⟨rfl, h⟩]
theorem shf_s {I : OId → Nat → Int32} {k : Nat} : setI (shf I k) (37, 0, 0) k (I (37, 0, 0) (k + 106)) = shf I (k + 1) := by
  funext o f
  unfold setI
  by_cases hq : o = (37, 0, 0) ∧ f = k
  · obtain ⟨rfl, rfl⟩ := hq
    rw [if_pos ⟨rfl, rfl⟩, shf_lo (Nat.lt_succ_self _)]
  · rw [if_neg hq]
    unfold shf
    have hcc : (o = (37, 0, 0) ∧ f < k) = (o = (37, 0, 0) ∧ f < k + 1) := propext ⟨fun q => ⟨q.1, by omega⟩, fun q => ⟨q.1, by
      have h1 : ¬ f = k := fun e => hq ⟨q.1, e⟩
      omega⟩⟩
    simp only [hcc]
section MKEEP
variable {d : Nat} {I : OId → Nat → Int32} {M R : OId → Nat → AV} {G : SG} {B : Bk}
/-- behind keeps, u kept before -/
def kpM (I : OId → Nat → Int32) (u : Nat) : OId → Nat → Int32 := if u = 6 then setI (cpy (setI (shf I 530) (12, 0, 0) 8 5) (37, 0, 0) (35, 0, 0) 530 0) (12, 0, 0) 8 6 else setI (cpy I (37, 0, 0) (35, 0, 0) (106 * u) 0) (12, 0, 0) 8 (N (u + 1))
theorem copies_nk {u : Nat} (hu : u < 6) {I : OId → Nat → Int32} : evm (d + 1) 218 [aR (12, 0, 0), aR (35, 0, 0), aI 0, aR (37, 0, 0), aI (N (106 * u))] (I, M, R, G) = some (.inl none, (cpy I (37, 0, 0) (35, 0, 0) (106 * u) 0, M, R, G)) := copies_ok (na := 106) (nb := 636) (s := 0) rfl rfl rfl (fun _ _ => rfl) (by decide) (by decide) (by omega) (by decide) (by decide)
theorem copies_n5 {I : OId → Nat → Int32} : evm (d + 1) 218 [aR (12, 0, 0), aR (35, 0, 0), aI 0, aR (37, 0, 0), aI 530] (I, M, R, G) = some (.inl none, (cpy I (37, 0, 0) (35, 0, 0) 530 0, M, R, G)) := copies_ok (na := 106) (nb := 636) (s := 0) (t := 530) rfl rfl rfl (fun _ _ => rfl) (by decide) (by decide) (by decide) (by decide) (by decide)
theorem cpy_ne {I : OId → Nat → Int32} {b a o : OId} {t s : Nat} (h : o ≠ b) : cpy I b a t s o = I o := cpk_ne h
theorem cpy_0 {I : OId → Nat → Int32} {b a : OId} {s i : Nat} (h : i < 106) : cpy I b a 0 s b i = I a (s + i) := by
  have h9 := cpk_in (I := I) (b := b) (a := a) (t := 0) (s := s) (k := 106) (i := i) h
  rw [Nat.zero_add] at h9
  exact h9
theorem keeps_ok {u : Nat} (hR : RF R) (hu : u ≤ 6) (h : I (12, 0, 0) 8 = N u) : evm (d + 2) 217 [aR (12, 0, 0)] (I, M, R, G) = some (.inl none, (kpM I u, M, R, G)) := by
  have e6 : (N u = 6) = (u = 6) := N_inj (b := 6) (by omega) (by decide)
  have hm : ∀ a, (106 : Int32) * N a = N (106 * a) := fun a => N_mul 106 a
  by_cases h6 : u = 6
  · subst h6
    rw [m217]
    simp only [s217_0, s217_1, s217_4, s217_6, s217_9, s217_10, h, e6, if_true, kil_nil]
    have hst : ∀ k, k < 530 → ev (evm (d + 1)) 217 11 [some (aR (12, 0, 0)), some (aI (N k))] [] [] (shf I k, M, R, G) = ev (evm (d + 1)) 217 11 [some (aR (12, 0, 0)), some (aI (N (k + 1)))] [] [] (shf I (k + 1), M, R, G) := by
      intro k hk
      have hg : (530 ≤ N k) = False := N_ge (a := k) (b := 530) hk (by decide)
      have ha : N k + 106 = N (k + 106) := N_add k 106
      have hk37 : kOf (37, 0, 0) = .inr (.int, 636) := rfl
      rw [s217_11]
      simp only [m217, s217_0, s217_1, s217_4, s217_6, s217_9, s217_10, s217_12, s217_15, s217_18, s217_19, s217_22, s217_23, s217_24, s217_27, s217_28, s217_30, s217_31, s217_32, s217_33, s217_36, s217_39, s217_40, s217_41, s217_44, s217_45, s217_46, s217_49, s217_50, s217_51, s217_54, s217_55, s217_56, s217_59, s217_61, s217_62, s217_65, s217_66, s217_69, s217_70, s217_71, s217_74, s217_75, s217_76, s217_79, hg, hR.m.2.2.1, ha, kIx hk37 (show k + 106 < 636 by omega) (by decide), kIwx hk37 rfl (show k < 636 by omega) (by decide), N_cl (show k + 106 < 2147483648 by omega), N_cl (show k < 2147483648 by omega), show ∀ S q, agI S (37, 0, 0) q = S.1 (37, 0, 0) q from fun _ _ => rfl, shf_hi (show k ≤ k + 106 by omega), shf_s, if_false, if_true, ck_v, ck_x, Option.toList, List.cons_append, List.nil_append, kil_nil, N_1, o10, o00, exN_0, exN_1, exN_2, exN_3, exN_4, exN_5, Ex]
    have e0 : ev (evm (d + 1)) 217 11 [some (aR (12, 0, 0)), some (aI (N 0))] [] [] (I, M, R, G) = ev (evm (d + 1)) 217 11 [some (aR (12, 0, 0)), some (aI (N 0))] [] [] (shf I 0, M, R, G) := by rw [shf_0]
    refine e0.trans ?_
    refine (iter (f := fun k => ev (evm (d + 1)) 217 11 [some (aR (12, 0, 0)), some (aI (N k))] [] [] (shf I k, M, R, G)) hst).trans ?_
    have hg : (530 ≤ N 530) = True := N_ge1 (a := 530) (b := 530) (Nat.le_refl _) (by decide)
    have s1 : shf I 530 (12, 0, 0) = I (12, 0, 0) := shf_ne (by simp)
    have e5 : N 6 - 1 = 5 := by decide
    have e530 : (106 : Int32) * 5 = N 530 := by decide
    have n8 : ∀ x, setI (shf I 530) (12, 0, 0) 8 x (12, 0, 0) 8 = x := fun x => by rw [setI_at]; simp
    have c8 : cpy (setI (shf I 530) (12, 0, 0) 8 5) (37, 0, 0) (35, 0, 0) 530 0 (12, 0, 0) 8 = 5 := by rw [cpy_ne (by simp), n8]
    have e55 : (5 : Int32) + 1 = 6 := by decide
    rw [s217_11]
    simp only [s217_12, s217_15]
    rw [if_pos (show (530 : Int32) ≤ N 530 from by rw [hg]; trivial)]
    simp only [s217_39, s217_40, s217_41, s1, h, s217_44, s217_45, s217_46]
    rw [e5]
    simp only [s217_49, s217_50, s217_51, s217_54, s217_55, s217_56, s217_59, s217_61, s217_62, s217_65, n8, hR.m.1, hR.m.2.2.1, s217_66]
    rw [show (106 : Int32) * 5 = 530 by decide]
    simp only [copies_n5, ck_v, Option.toList, List.nil_append, s217_69, s217_70, s217_71, c8, s217_74, s217_75, s217_76, s217_79]
    rw [e55, show kpM I 6 = setI (cpy (setI (shf I 530) (12, 0, 0) 8 5) (37, 0, 0) (35, 0, 0) 530 0) (12, 0, 0) 8 6 from if_pos rfl]
  · rw [m217]
    have c8 : cpy I (37, 0, 0) (35, 0, 0) (106 * u) 0 (12, 0, 0) 8 = N u := by rw [cpy_ne (by simp), h]
    simp only [m217, s217_0, s217_1, s217_4, s217_6, s217_9, s217_10, s217_12, s217_15, s217_18, s217_19, s217_22, s217_23, s217_24, s217_27, s217_28, s217_30, s217_31, s217_32, s217_33, s217_36, s217_39, s217_40, s217_41, s217_44, s217_45, s217_46, s217_49, s217_50, s217_51, s217_54, s217_55, s217_56, s217_59, s217_61, s217_62, s217_65, s217_66, s217_69, s217_70, s217_71, s217_74, s217_75, s217_76, s217_79, h, e6, h6, if_false, hR.m.1, hR.m.2.2.1, hm, copies_nk (show u < 6 by omega), if_false, if_true, ck_v, ck_x, Option.toList, List.cons_append, List.nil_append, kil_nil, N_1, o10, o00, exN_0, exN_1, exN_2, exN_3, exN_4, exN_5, Ex, c8, kpM]
theorem copies_ns {I : OId → Nat → Int32} : evm (d + 1) 218 [aR (12, 0, 0), aR (35, 0, 0), aI 0, aR (36, 0, 0), aI 0] (I, M, R, G) = some (.inl none, (cpy I (36, 0, 0) (35, 0, 0) 0 0, M, R, G)) := copies_ok (na := 106) (nb := 106) (s := 0) (t := 0) rfl rfl rfl (fun _ _ => rfl) (by decide) (by decide) (by omega) (by decide) (by decide)
theorem copies_sn {I : OId → Nat → Int32} : evm (d + 1) 218 [aR (12, 0, 0), aR (36, 0, 0), aI 0, aR (35, 0, 0), aI 0] (I, M, R, G) = some (.inl none, (cpy I (35, 0, 0) (36, 0, 0) 0 0, M, R, G)) := copies_ok (na := 106) (nb := 106) (s := 0) (t := 0) rfl rfl rfl (fun _ _ => rfl) (by decide) (by decide) (by omega) (by decide) (by decide)
theorem copies_np {I : OId → Nat → Int32} : evm (d + 1) 218 [aR (12, 0, 0), aR (35, 0, 0), aI 0, aR (38, 0, 0), aI 0] (I, M, R, G) = some (.inl none, (cpy I (38, 0, 0) (35, 0, 0) 0 0, M, R, G)) := copies_ok (na := 106) (nb := 106) (s := 0) (t := 0) rfl rfl rfl (fun _ _ => rfl) (by decide) (by decide) (by omega) (by decide) (by decide)
theorem copies_pn {I : OId → Nat → Int32} : evm (d + 1) 218 [aR (12, 0, 0), aR (38, 0, 0), aI 0, aR (35, 0, 0), aI 0] (I, M, R, G) = some (.inl none, (cpy I (35, 0, 0) (38, 0, 0) 0 0, M, R, G)) := copies_ok (na := 106) (nb := 106) (s := 0) (t := 0) rfl rfl rfl (fun _ _ => rfl) (by decide) (by decide) (by omega) (by decide) (by decide)
theorem copies_kn {u : Nat} (hu : u < 6) {I : OId → Nat → Int32} : evm (d + 1) 218 [aR (12, 0, 0), aR (37, 0, 0), aI (N (106 * u)), aR (35, 0, 0), aI 0] (I, M, R, G) = some (.inl none, (cpy I (35, 0, 0) (37, 0, 0) 0 (106 * u), M, R, G)) := copies_ok (na := 636) (nb := 106) (t := 0) rfl rfl rfl (fun _ _ => rfl) (by decide) (by omega) (by decide) (by decide) (by decide)
theorem saveM_ok (hR : RF R) : evm (d + 2) 309 [aR (12, 0, 0)] (I, M, R, G) = some (.inl (some (aI (I (35, 0, 0) 7))), (thr (setI (cpy I (36, 0, 0) (35, 0, 0) 0 0) (12, 0, 0) 15 1) 0, M, R, G)) := by
  have e : setI (cpy I (36, 0, 0) (35, 0, 0) 0 0) (12, 0, 0) 15 1 (35, 0, 0) 7 = I (35, 0, 0) 7 := by rw [setI_ne (by simp), cpy_ne (by simp)]
  simp only [m309, s309_0, s309_1, s309_2, s309_5, s309_6, s309_7, s309_10, s309_11, s309_14, s309_15, s309_16, s309_19, s309_20, s309_21, s309_24, s309_26, s309_27, s309_30, hR.m.1, hR.m.2.1, copies_ns, if_false, if_true, ck_v, ck_x, Option.toList, List.cons_append, List.nil_append, kil_nil, N_1, o10, o00, exN_0, exN_1, exN_2, exN_3, exN_4, exN_5, Ex, or_true, kn7, cl7, ag35, e, plain_ok]
theorem restoreM_ok (hR : RF R) (h : bb (I (12, 0, 0) 15) = 1) : evm (d + 2) 310 [aR (12, 0, 0)] (I, M, R, G) = some (.inl (some (aI (I (36, 0, 0) 7))), (setI (cpy (thr I 0) (35, 0, 0) (36, 0, 0) 0 0) (12, 0, 0) 8 0, M, R, G)) := by
  have e : setI (cpy (thr I 0) (35, 0, 0) (36, 0, 0) 0 0) (12, 0, 0) 8 0 (35, 0, 0) 7 = I (36, 0, 0) 7 := by
    rw [setI_ne (by simp)]
    rw [cpy_0 (by decide), thr_ne (by simp)]
  simp only [m310, s310_0, s310_1, s310_2, s310_5, s310_8, s310_11, s310_12, s310_13, s310_14, s310_15, s310_18, s310_19, s310_20, s310_23, s310_24, s310_27, s310_28, s310_29, s310_32, s310_33, s310_36, s310_38, s310_39, h, checked_1, ite_le, show ((0 : Int32) < 0) = False from by simp, hR.m.1, hR.m.2.1, copies_sn, if_false, if_true, ck_v, ck_x, Option.toList, List.cons_append, List.nil_append, kil_nil, N_1, o10, o00, exN_0, exN_1, exN_2, exN_3, exN_4, exN_5, Ex, kn7, cl7, ag35, e]
theorem restoreM_no (hR : RF R) (h : bb (I (12, 0, 0) 15) = 0) : evm (d + 2) 310 [aR (12, 0, 0)] (I, M, R, G) = some (.inl (some (aI 0)), (thr I 1, M, R, G)) := by
  simp only [m310, s310_0, s310_1, s310_2, s310_5, s310_8, s310_11, s310_12, s310_13, s310_14, s310_15, s310_18, s310_19, s310_20, s310_23, s310_24, s310_27, s310_28, s310_29, s310_32, s310_33, s310_36, s310_38, s310_39, h, checked_0, ite_le, show ((0 : Int32) < 1) = True from by decide, if_false, if_true, ck_v, ck_x, Option.toList, List.cons_append, List.nil_append, kil_nil, N_1, o10, o00, exN_0, exN_1, exN_2, exN_3, exN_4, exN_5, Ex]
theorem undoM_ok {u : Nat} (hR : RF R) (hu : u ≤ 6) (h0 : 0 < u) (h : I (12, 0, 0) 8 = N u) : evm (d + 2) 308 [aR (12, 0, 0)] (I, M, R, G) = some (.inl (some (aI (N (u - 1)))), (cpy (setI (thr I 0) (12, 0, 0) 8 (N (u - 1))) (35, 0, 0) (37, 0, 0) 0 (106 * (u - 1)), M, R, G)) := by
  have hm : ∀ a, (106 : Int32) * N a = N (106 * a) := fun a => N_mul 106 a
  have eu : N u - 1 = N (u - 1) := by
    have h9 : N (u - 1) + 1 = N u := by
      rw [N_1]
      exact congrArg N (by omega)
    rw [← h9]
    grind
  have hlt : ((0 : Int32) < N u) = True := N_lt1 (a := 0) (by omega) (by omega)
  have n8 : ∀ x, setI (thr I 0) (12, 0, 0) 8 x (12, 0, 0) 8 = x := fun x => by rw [setI_at]; simp
  have t8 : thr I 0 (12, 0, 0) 8 = N u := by rw [thr_o (by decide), h]
  have c8 : cpy (setI (thr I 0) (12, 0, 0) 8 (N (u - 1))) (35, 0, 0) (37, 0, 0) 0 (106 * (u - 1)) (12, 0, 0) 8 = N (u - 1) := by rw [cpy_ne (by simp), n8]
  simp only [m308, s308_0, s308_1, s308_2, s308_5, s308_8, s308_9, s308_12, s308_13, s308_16, s308_19, s308_20, s308_21, s308_22, s308_23, s308_26, s308_27, s308_28, s308_31, s308_32, s308_33, s308_36, s308_38, s308_39, s308_42, s308_43, s308_44, s308_47, s308_48, s308_51, s308_52, s308_55, h, hlt, checked_1, ite_le, show ((0 : Int32) < 0) = False from by simp, t8, eu, n8, hm, hR.m.1, hR.m.2.2.1, copies_kn (show u - 1 < 6 by omega), if_false, if_true, ck_v, ck_x, Option.toList, List.cons_append, List.nil_append, kil_nil, N_1, o10, o00, exN_0, exN_1, exN_2, exN_3, exN_4, exN_5, Ex, c8]
theorem undoM_no (hR : RF R) (h : I (12, 0, 0) 8 = 0) : evm (d + 2) 308 [aR (12, 0, 0)] (I, M, R, G) = some (.inl (some (aI 0)), (thr I 1, M, R, G)) := by
  simp only [m308, s308_0, s308_1, s308_2, s308_5, s308_8, s308_9, s308_12, s308_13, s308_16, s308_19, s308_20, s308_21, s308_22, s308_23, s308_26, s308_27, s308_28, s308_31, s308_32, s308_33, s308_36, s308_38, s308_39, s308_42, s308_43, s308_44, s308_47, s308_48, s308_51, s308_52, s308_55, h, show ((0 : Int32) < 0) = False from by simp, checked_0, ite_le, show ((0 : Int32) < 1) = True from by decide, if_false, if_true, ck_v, ck_x, Option.toList, List.cons_append, List.nil_append, kil_nil, N_1, o10, o00, exN_0, exN_1, exN_2, exN_3, exN_4, exN_5, Ex]
end MKEEP
