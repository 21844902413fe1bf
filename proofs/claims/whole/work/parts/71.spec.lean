/-! THE METHODS' MEANING: the model's plans -/
def FPl (m : Nat) (I I' : OId → Nat → Int32) : Prop := (∀ o, o ≠ (35, 0, 0) → o ≠ (39, 0, 0) → o ≠ (40, 0, 0) → o ≠ (12, 0, 0) → I' o = I o) ∧ (∀ f, f ≠ 14 → I' (12, 0, 0) f = I (12, 0, 0) f) ∧ ∀ i, i < m → I' (39, 0, 0) i = I (39, 0, 0) i ∧ I' (40, 0, 0) i = I (40, 0, 0) i
def GdP (m : Nat) (V : Vw) (r : Pln) (I I' : OId → Nat → Int32) : Prop := I' (12, 0, 0) 14 = N r.2 ∧ (∀ i k e, r.1[i]? = some (k, e) → k < vn V ∧ I' (39, 0, 0) (m + i) = N k ∧ I' (40, 0, 0) (m + i) = N e) ∧ FPl m I I'
section PLANS
variable {d : Nat} {I I' I'' : OId → Nat → Int32} {M R : OId → Nat → AV} {G : SG} {V : Vw} {q : Qy}
theorem FPl.rf {m : Nat} : FPl m I I := ⟨fun _ _ _ _ _ => rfl, fun _ _ => rfl, fun _ _ => ⟨rfl, rfl⟩⟩
theorem FPl.tr {m : Nat} (h : FPl m I I') (h' : FPl m I' I'') : FPl m I I'' := ⟨fun o a b c e => (h'.1 o a b c e).trans (h.1 o a b c e), fun f hf => (h'.2.1 f hf).trans (h.2.1 f hf), fun i hi => ⟨(h'.2.2 i hi).1.trans (h.2.2 i hi).1, (h'.2.2 i hi).2.trans (h.2.2 i hi).2⟩⟩
theorem FPl.le {m n : Nat} (h : FPl n I I') (hm : m ≤ n) : FPl m I I' := ⟨h.1, h.2.1, fun i hi => h.2.2 i (by omega)⟩
theorem FPl.row {m f : Nat} {x : Int32} : FPl m I (setI I (35, 0, 0) f x) := ⟨fun o a _ _ _ => setI_ne a, fun f _ => by rw [setI_ne (by simp)], fun i _ => ⟨by rw [setI_ne (by simp)], by rw [setI_ne (by simp)]⟩⟩
theorem MQy.fr {m : Nat} (h : MQy I q) (f : FPl m I I') : MQy I' q := by
  obtain ⟨q1, q2, q3, q4, q5⟩ := h
  exact ⟨(f.2.1 10 (by decide)).trans q1, (f.2.1 11 (by decide)).trans q2, (f.2.1 9 (by decide)).trans q3, (f.2.1 12 (by decide)).trans q4, (f.2.1 13 (by decide)).trans q5⟩
theorem mv_ch {k c : Nat} (h : MV I V) (hk : k < 7) : MV (setI I (35, 0, 0) (15 + 6 * k + 3) (N c)) (chV V k c) := by
  obtain ⟨⟨r0, r1, r2⟩, r7, h7, hf, hl, hc⟩ := h
  refine ⟨⟨?_, ?_, ?_⟩, ?_, h7, ?_, ?_, ?_⟩
  · rw [setI_at, if_neg (by omega)]; exact r0
  · rw [setI_at, if_neg (by omega)]; exact r1
  · rw [setI_at, if_neg (by omega)]; exact r2
  · rw [setI_at, if_neg (by omega)]; exact r7
  · intro i hi f hf'
    show _ = if i = k ∧ f = 3 then N c else vf V i f
    rw [setI_at]
    by_cases hq : i = k ∧ f = 3
    · rw [if_pos hq, if_pos (by omega)]
    · rw [if_neg hq, if_neg (by omega)]; exact hf i hi f hf'
  · intro i hi
    rw [setI_at, if_neg (by omega)]; exact hl i hi
  · intro a b ha hb
    rw [setI_at, if_neg (by omega)]; exact hc a b ha hb
theorem addN {m n : Nat} : N m + 1 = N (m + 1) := N_1 m
theorem plans_ok (hR : RF R) : ∀ (l m : Nat) (V : Vw) (I : OId → Nat → Int32), MV I V → MQy I q → QB V q → m + l ≤ 2 → match dfs q l V with
    | none => ∃ I', evm (d + l + 7) 227 [aR (12, 0, 0), aI (N m), aI (N l)] (I, M, R, G) = some (.inl (some (aI 0)), (I', M, R, G)) ∧ I' (35, 0, 0) = I (35, 0, 0) ∧ FPl m I I'
    | some r => ∃ I', evm (d + l + 7) 227 [aR (12, 0, 0), aI (N m), aI (N l)] (I, M, R, G) = some (.inl (some (aI 1)), (I', M, R, G)) ∧ GdP m V r I I'
  | 0, m, V, I, hV, hQ, hB, hm => by
    have hb := bestChannel_ok (d := d) (M := M) (G := G) hR hV hQ hB
    have e14 : ∀ x, setI I (12, 0, 0) 14 x (12, 0, 0) 14 = x := fun x => by rw [setI_at, if_pos rfl]
    have hF : ∀ x, FPl m I (setI I (12, 0, 0) 14 x) := fun x => ⟨fun o _ _ _ a => setI_ne a, fun f hf => by rw [setI_at, if_neg hf], fun i _ => ⟨by rw [setI_ne (by simp)], by rw [setI_ne (by simp)]⟩⟩
    unfold dfs
    cases hq : bestC V q with
    | none =>
      rw [hq] at hb
      refine ⟨setI I (12, 0, 0) 14 (-1), ?_, setI_ne (by simp), hF _⟩
      have hb' : evm (d + 6) 228 [aR (12, 0, 0)] (I, M, R, G) = some (.inl (some (aI (-1))), (I, M, R, G)) := hb
      show evm (d + 6 + 1) 227 [aR (12, 0, 0), aI (N m), aI 0] (I, M, R, G) = _
      rw [m227]
      simp only [s227_0, s227_1, s227_4, s227_5, s227_6, s227_9, s227_12, s227_13, s227_16, s227_19, s227_20, s227_23, s227_24, s227_25, s227_26, s227_0, hb', e14, m1n, if_false, if_true, ck_v, ck_x, Option.toList, List.cons_append, List.nil_append, kil_nil, N_1, o10, o00, exN_0, exN_1, exN_2, exN_3, exN_4, exN_5, Ex, true_or]
    | some c =>
      rw [hq] at hb
      have hc8 : c < 8 := (bestf_lt (show bestf _ _ 8 = some c from hq)).1
      refine ⟨setI I (12, 0, 0) 14 (N c), ?_, e14 _, fun i k e he => by simp at he, hF _⟩
      have hb' : evm (d + 6) 228 [aR (12, 0, 0)] (I, M, R, G) = some (.inl (some (aI (N c))), (I, M, R, G)) := hb
      show evm (d + 6 + 1) 227 [aR (12, 0, 0), aI (N m), aI 0] (I, M, R, G) = _
      rw [m227]
      simp only [s227_0, s227_1, s227_4, s227_5, s227_6, s227_9, s227_12, s227_13, s227_16, s227_19, s227_20, s227_23, s227_24, s227_25, s227_26, s227_0, hb', e14, N_neg (show c < 2147483648 by omega), if_false, if_true, ck_v, ck_x, Option.toList, List.cons_append, List.nil_append, kil_nil, N_1, o10, o00, exN_0, exN_1, exN_2, exN_3, exN_4, exN_5, Ex, or_true]
  | l + 1, m, V, I0, hV, hQ, hB, hm => by
    have h7 := hV.2.2.1
    have k39 : kOf (39, 0, 0) = .inr (.int, 2) := rfl
    have k40 : kOf (40, 0, 0) = .inr (.int, 2) := rfl
    have el : N (l + 1) - 1 = N l := sub_N (by omega) (by omega)
    have en0 : (N (l + 1) = 0) = False := by
      rw [← N_0, N_inj (by omega) (by decide)]
      exact eq_false (by omega)
    -- the loop over the channels of k
    have hC : ∀ (k : Nat), k < vn V → ∀ (r c : Nat) (I : OId → Nat → Int32) (l5 : Option AV), c + r = 8 → I (35, 0, 0) = I0 (35, 0, 0) → FPl m I0 I → match gs (fun c => if canM V q k c = true then (dfs q l (chV V k c)).map (fun r => ((k, c) :: r.1, r.2)) else none) r c with
        | none => ∃ I' l5', ev (evm (d + l + 7)) 227 41 [some (aR (12, 0, 0)), some (aI (N m)), some (aI (N (l + 1))), some (aI (N k)), some (aI (N c)), l5] [] [] (I, M, R, G) = ev (evm (d + l + 7)) 227 27 [some (aR (12, 0, 0)), some (aI (N m)), some (aI (N (l + 1))), some (aI (N (k + 1))), some (aI 8), l5'] [] [] (I', M, R, G) ∧ I' (35, 0, 0) = I0 (35, 0, 0) ∧ FPl m I0 I'
        | some r => ∃ I', ev (evm (d + l + 7)) 227 41 [some (aR (12, 0, 0)), some (aI (N m)), some (aI (N (l + 1))), some (aI (N k)), some (aI (N c)), l5] [] [] (I, M, R, G) = some (.inl (some (aI 1)), (I', M, R, G)) ∧ GdP m V r I0 I' := by
      intro k hk r
      induction r with
      | zero =>
        intro c I l5 hc h35 hF
        have e8 : c = 8 := by omega
        subst e8
        refine ⟨I, l5, ?_, h35, hF⟩
        have e8 : ((8 : Int32) ≤ N 8) = True := N_ge1 (a := 8) (b := 8) (Nat.le_refl _) (by decide)
        rw [s227_41]
        simp only [s227_0, s227_1, s227_4, s227_5, s227_6, s227_9, s227_12, s227_13, s227_16, s227_19, s227_20, s227_23, s227_24, s227_25, s227_26, s227_28, s227_29, s227_32, s227_34, s227_35, s227_38, s227_39, s227_43, s227_45, s227_48, s227_49, s227_50, s227_52, s227_55, s227_58, s227_61, s227_62, s227_63, s227_64, s227_67, s227_69, s227_70, s227_71, s227_72, s227_74, s227_77, s227_78, s227_81, s227_82, s227_83, s227_84, s227_85, s227_88, s227_89, s227_91, s227_92, s227_93, s227_94, s227_95, s227_96, s227_97, s227_98, s227_99, s227_102, s227_105, s227_106, s227_107, s227_108, s227_109, s227_110, s227_112, s227_115, s227_118, s227_121, s227_124, s227_127, s227_128, e8, if_false, if_true, ck_v, ck_x, Option.toList, List.cons_append, List.nil_append, kil_nil, N_1, o10, o00, exN_0, exN_1, exN_2, exN_3, exN_4, exN_5, Ex]
        rfl
      | succ r ih =>
        intro c I l5 hc h35 hF
        have hV1 : MV I V := hV.fr h35
        have hQ1 : MQy I q := hQ.fr hF
        have hcm := canMove_ok (d := d + l + 1) (M := M) (G := G) hR hV1 hQ1 hB hk (show c < 8 by omega)
        have e8 : ((8 : Int32) ≤ N c) = False := N_ge (a := c) (b := 8) (by omega) (by decide)
        unfold gs
        by_cases hm1 : canM V q k c = true
        · rw [if_pos hm1] at hcm ⊢
          have hVc := mv_ch (c := c) hV1 (show k < 7 by omega)
          obtain ⟨J, hJ⟩ : ∃ J, J = setI (setI (setI I (35, 0, 0) (15 + 6 * k + 3) (N c)) (39, 0, 0) m (N k)) (40, 0, 0) m (N c) := ⟨_, rfl⟩
          have hJ35 : J (35, 0, 0) = setI I (35, 0, 0) (15 + 6 * k + 3) (N c) (35, 0, 0) := by rw [hJ, setI_ne (by simp), setI_ne (by simp)]
          have hJ39 : J (39, 0, 0) m = N k := by rw [hJ, setI_ne (by simp), setI_at, if_pos rfl]
          have hJ40 : J (40, 0, 0) m = N c := by rw [hJ, setI_at, if_pos rfl]
          have hJF : FPl m I J := ⟨fun o a b c e => by rw [hJ, setI_ne c, setI_ne b, setI_ne a], fun f hf => by rw [hJ, setI_ne (by simp), setI_ne (by simp), setI_ne (by simp)], fun i hi => ⟨by rw [hJ, setI_ne (by simp), setI_at, if_neg (by omega), setI_ne (by simp)], by rw [hJ, setI_at, if_neg (by omega), setI_ne (by simp), setI_ne (by simp)]⟩⟩
          have hVJ : MV J (chV V k c) := hVc.fr hJ35
          have hQJ : MQy J q := hQ1.fr hJF
          have hI := plans_ok hR l (m + 1) (chV V k c) J hVJ hQJ hB (by omega)
          have g3 := fV3 (d := d + l + 6) (M := M) (G := G) hR hV1 hk
          have g39 : ∀ x, setI I (35, 0, 0) (15 + 6 * k + 3) x (39, 0, 0) = I (39, 0, 0) := fun x => setI_ne (by simp)
          cases hd : dfs q l (chV V k c) with
          | some r' =>
            rw [hd] at hI
            obtain ⟨I', e1, a1, a2, a3⟩ := hI
            refine ⟨I', ?_, a1, ?_, hF.tr (hJF.tr (a3.le (by omega)))⟩
            · rw [s227_41]
              simp only [s227_0, s227_1, s227_4, s227_5, s227_6, s227_9, s227_12, s227_13, s227_16, s227_19, s227_20, s227_23, s227_24, s227_25, s227_26, s227_28, s227_29, s227_32, s227_34, s227_35, s227_38, s227_39, s227_43, s227_45, s227_48, s227_49, s227_50, s227_52, s227_55, s227_58, s227_61, s227_62, s227_63, s227_64, s227_67, s227_69, s227_70, s227_71, s227_72, s227_74, s227_77, s227_78, s227_81, s227_82, s227_83, s227_84, s227_85, s227_88, s227_89, s227_91, s227_92, s227_93, s227_94, s227_95, s227_96, s227_97, s227_98, s227_99, s227_102, s227_105, s227_106, s227_107, s227_108, s227_109, s227_110, s227_112, s227_115, s227_118, s227_121, s227_124, s227_127, s227_128, e8, hcm, g3, lays3 hR (show k < 7 by omega), hR.m.2.2.2.2.1, hR.m.2.2.2.2.2.1, kIwx k39 rfl (show m < 2 by omega) (by decide), kIwx k40 rfl (show m < 2 by omega) (by decide), N_cl (show m < 2147483648 by omega), el, if_false, if_true, ck_v, ck_x, Option.toList, List.cons_append, List.nil_append, kil_nil, N_1, o10, o00, exN_0, exN_1, exN_2, exN_3, exN_4, exN_5, Ex]
              rw [← hJ]
              simp only [e1, s227_0, s227_1, s227_4, s227_5, s227_6, s227_9, s227_12, s227_13, s227_16, s227_19, s227_20, s227_23, s227_24, s227_25, s227_26, s227_28, s227_29, s227_32, s227_34, s227_35, s227_38, s227_39, s227_43, s227_45, s227_48, s227_49, s227_50, s227_52, s227_55, s227_58, s227_61, s227_62, s227_63, s227_64, s227_67, s227_69, s227_70, s227_71, s227_72, s227_74, s227_77, s227_78, s227_81, s227_82, s227_83, s227_84, s227_85, s227_88, s227_89, s227_91, s227_92, s227_93, s227_94, s227_95, s227_96, s227_97, s227_98, s227_99, s227_102, s227_105, s227_106, s227_107, s227_108, s227_109, s227_110, s227_112, s227_115, s227_118, s227_121, s227_124, s227_127, s227_128, if_false, if_true, ck_v, ck_x, Option.toList, List.cons_append, List.nil_append, kil_nil, N_1, o10, o00, exN_0, exN_1, exN_2, exN_3, exN_4, exN_5, Ex, or_true]
            · intro i k' e' he
              cases i with
              | zero =>
                simp only [List.getElem?_cons_zero, Option.some.injEq, Prod.mk.injEq] at he
                obtain ⟨rfl, rfl⟩ := he
                exact ⟨hk, (a3.2.2 m (by omega)).1.trans hJ39, (a3.2.2 m (by omega)).2.trans hJ40⟩
              | succ i =>
                rw [List.getElem?_cons_succ] at he
                obtain ⟨b1, b2, b3⟩ := a2 i k' e' he
                rw [show m + (i + 1) = m + 1 + i by omega]
                exact ⟨b1, b2, b3⟩
          | none =>
            rw [hd] at hI
            obtain ⟨I2, e1, a1, a2⟩ := hI
            have hr35 : setI I2 (35, 0, 0) (15 + 6 * k + 3) (vf V k 3) (35, 0, 0) = I0 (35, 0, 0) := by
              funext f
              rw [setI_at, a1, hJ35, setI_at]
              by_cases hf : f = 15 + 6 * k + 3
              · rw [if_pos hf, hf]
                exact (hV.2.2.2.1 k hk 3 (by decide)).symm
              · rw [if_neg hf, if_neg hf, h35]
            have hF3 : FPl m I0 (setI I2 (35, 0, 0) (15 + 6 * k + 3) (vf V k 3)) := (hF.tr (hJF.tr (a2.le (by omega)))).tr FPl.row
            have hn := ih (c + 1) _ (some (aI (vf V k 3))) (by omega) hr35 hF3
            have hrun : ev (evm (d + l + 7)) 227 41 [some (aR (12, 0, 0)), some (aI (N m)), some (aI (N (l + 1))), some (aI (N k)), some (aI (N c)), l5] [] [] (I, M, R, G) = ev (evm (d + l + 7)) 227 41 [some (aR (12, 0, 0)), some (aI (N m)), some (aI (N (l + 1))), some (aI (N k)), some (aI (N (c + 1))), some (aI (vf V k 3))] [] [] (setI I2 (35, 0, 0) (15 + 6 * k + 3) (vf V k 3), M, R, G) := by
              rw [s227_41]
              simp only [s227_0, s227_1, s227_4, s227_5, s227_6, s227_9, s227_12, s227_13, s227_16, s227_19, s227_20, s227_23, s227_24, s227_25, s227_26, s227_28, s227_29, s227_32, s227_34, s227_35, s227_38, s227_39, s227_43, s227_45, s227_48, s227_49, s227_50, s227_52, s227_55, s227_58, s227_61, s227_62, s227_63, s227_64, s227_67, s227_69, s227_70, s227_71, s227_72, s227_74, s227_77, s227_78, s227_81, s227_82, s227_83, s227_84, s227_85, s227_88, s227_89, s227_91, s227_92, s227_93, s227_94, s227_95, s227_96, s227_97, s227_98, s227_99, s227_102, s227_105, s227_106, s227_107, s227_108, s227_109, s227_110, s227_112, s227_115, s227_118, s227_121, s227_124, s227_127, s227_128, e8, hcm, g3, lays3 hR (show k < 7 by omega), hR.m.2.2.2.2.1, hR.m.2.2.2.2.2.1, kIwx k39 rfl (show m < 2 by omega) (by decide), kIwx k40 rfl (show m < 2 by omega) (by decide), N_cl (show m < 2147483648 by omega), el, if_false, if_true, ck_v, ck_x, Option.toList, List.cons_append, List.nil_append, kil_nil, N_1, o10, o00, exN_0, exN_1, exN_2, exN_3, exN_4, exN_5, Ex]
              rw [← hJ]
              simp only [e1, s227_0, s227_1, s227_4, s227_5, s227_6, s227_9, s227_12, s227_13, s227_16, s227_19, s227_20, s227_23, s227_24, s227_25, s227_26, s227_28, s227_29, s227_32, s227_34, s227_35, s227_38, s227_39, s227_43, s227_45, s227_48, s227_49, s227_50, s227_52, s227_55, s227_58, s227_61, s227_62, s227_63, s227_64, s227_67, s227_69, s227_70, s227_71, s227_72, s227_74, s227_77, s227_78, s227_81, s227_82, s227_83, s227_84, s227_85, s227_88, s227_89, s227_91, s227_92, s227_93, s227_94, s227_95, s227_96, s227_97, s227_98, s227_99, s227_102, s227_105, s227_106, s227_107, s227_108, s227_109, s227_110, s227_112, s227_115, s227_118, s227_121, s227_124, s227_127, s227_128, lays3 hR (show k < 7 by omega), if_false, if_true, ck_v, ck_x, Option.toList, List.cons_append, List.nil_append, kil_nil, N_1, o10, o00, exN_0, exN_1, exN_2, exN_3, exN_4, exN_5, Ex]
            rw [hrun]
            exact hn
        · rw [if_neg hm1] at hcm ⊢
          have hn := ih (c + 1) I l5 (by omega) h35 hF
          have hrun : ev (evm (d + l + 7)) 227 41 [some (aR (12, 0, 0)), some (aI (N m)), some (aI (N (l + 1))), some (aI (N k)), some (aI (N c)), l5] [] [] (I, M, R, G) = ev (evm (d + l + 7)) 227 41 [some (aR (12, 0, 0)), some (aI (N m)), some (aI (N (l + 1))), some (aI (N k)), some (aI (N (c + 1))), l5] [] [] (I, M, R, G) := by
            rw [s227_41]
            simp only [s227_0, s227_1, s227_4, s227_5, s227_6, s227_9, s227_12, s227_13, s227_16, s227_19, s227_20, s227_23, s227_24, s227_25, s227_26, s227_28, s227_29, s227_32, s227_34, s227_35, s227_38, s227_39, s227_43, s227_45, s227_48, s227_49, s227_50, s227_52, s227_55, s227_58, s227_61, s227_62, s227_63, s227_64, s227_67, s227_69, s227_70, s227_71, s227_72, s227_74, s227_77, s227_78, s227_81, s227_82, s227_83, s227_84, s227_85, s227_88, s227_89, s227_91, s227_92, s227_93, s227_94, s227_95, s227_96, s227_97, s227_98, s227_99, s227_102, s227_105, s227_106, s227_107, s227_108, s227_109, s227_110, s227_112, s227_115, s227_118, s227_121, s227_124, s227_127, s227_128, e8, hcm, if_false, if_true, ck_v, ck_x, Option.toList, List.cons_append, List.nil_append, kil_nil, N_1, o10, o00, exN_0, exN_1, exN_2, exN_3, exN_4, exN_5, Ex]
          rw [hrun]
          exact hn
    have hK : ∀ (r k : Nat) (I : OId → Nat → Int32) (l4 l5 : Option AV), k + r = vn V → I (35, 0, 0) = I0 (35, 0, 0) → FPl m I0 I → match gs (fun k => gs (fun c => if canM V q k c = true then (dfs q l (chV V k c)).map (fun r => ((k, c) :: r.1, r.2)) else none) 8 0) r k with
        | none => ∃ I', ev (evm (d + l + 7)) 227 27 [some (aR (12, 0, 0)), some (aI (N m)), some (aI (N (l + 1))), some (aI (N k)), l4, l5] [] [] (I, M, R, G) = some (.inl (some (aI 0)), (I', M, R, G)) ∧ I' (35, 0, 0) = I0 (35, 0, 0) ∧ FPl m I0 I'
        | some r => ∃ I', ev (evm (d + l + 7)) 227 27 [some (aR (12, 0, 0)), some (aI (N m)), some (aI (N (l + 1))), some (aI (N k)), l4, l5] [] [] (I, M, R, G) = some (.inl (some (aI 1)), (I', M, R, G)) ∧ GdP m V r I0 I' := by
      intro r
      induction r with
      | zero =>
        intro k I l4 l5 hk h35 hF
        have ek : k = vn V := by omega
        refine ⟨I, ?_, h35, hF⟩
        have hV1 : MV I V := hV.fr h35
        rw [s227_27]
        simp only [s227_0, s227_1, s227_4, s227_5, s227_6, s227_9, s227_12, s227_13, s227_16, s227_19, s227_20, s227_23, s227_24, s227_25, s227_26, s227_28, s227_29, s227_32, s227_34, s227_35, s227_38, s227_39, s227_43, s227_45, s227_48, s227_49, s227_50, s227_52, s227_55, s227_58, s227_61, s227_62, s227_63, s227_64, s227_67, s227_69, s227_70, s227_71, s227_72, s227_74, s227_77, s227_78, s227_81, s227_82, s227_83, s227_84, s227_85, s227_88, s227_89, s227_91, s227_92, s227_93, s227_94, s227_95, s227_96, s227_97, s227_98, s227_99, s227_102, s227_105, s227_106, s227_107, s227_108, s227_109, s227_110, s227_112, s227_115, s227_118, s227_121, s227_124, s227_127, s227_128, hR.m.1, kn7, cl7, ag35, hV1.2.1, N_ge1 (show vn V ≤ k by omega) (show k < 2147483648 by omega), if_false, if_true, ck_v, ck_x, Option.toList, List.cons_append, List.nil_append, kil_nil, N_1, o10, o00, exN_0, exN_1, exN_2, exN_3, exN_4, exN_5, Ex, true_or]
      | succ r ih =>
        intro k I l4 l5 hk h35 hF
        have hV1 : MV I V := hV.fr h35
        have h1 := hC k (by omega) 8 0 I l5 (by omega) h35 hF
        have hrun : ev (evm (d + l + 7)) 227 27 [some (aR (12, 0, 0)), some (aI (N m)), some (aI (N (l + 1))), some (aI (N k)), l4, l5] [] [] (I, M, R, G) = ev (evm (d + l + 7)) 227 41 [some (aR (12, 0, 0)), some (aI (N m)), some (aI (N (l + 1))), some (aI (N k)), some (aI (N 0)), l5] [] [] (I, M, R, G) := by
          rw [s227_27]
          simp only [s227_0, s227_1, s227_4, s227_5, s227_6, s227_9, s227_12, s227_13, s227_16, s227_19, s227_20, s227_23, s227_24, s227_25, s227_26, s227_28, s227_29, s227_32, s227_34, s227_35, s227_38, s227_39, s227_43, s227_45, s227_48, s227_49, s227_50, s227_52, s227_55, s227_58, s227_61, s227_62, s227_63, s227_64, s227_67, s227_69, s227_70, s227_71, s227_72, s227_74, s227_77, s227_78, s227_81, s227_82, s227_83, s227_84, s227_85, s227_88, s227_89, s227_91, s227_92, s227_93, s227_94, s227_95, s227_96, s227_97, s227_98, s227_99, s227_102, s227_105, s227_106, s227_107, s227_108, s227_109, s227_110, s227_112, s227_115, s227_118, s227_121, s227_124, s227_127, s227_128, hR.m.1, kn7, cl7, ag35, hV1.2.1, N_ge (show k < vn V by omega) (show vn V < 2147483648 by omega), if_false, if_true, ck_v, ck_x, Option.toList, List.cons_append, List.nil_append, kil_nil, N_1, o10, o00, exN_0, exN_1, exN_2, exN_3, exN_4, exN_5, Ex]
          rfl
        rw [hrun]
        unfold gs
        cases hg : gs (fun c => if canM V q k c = true then (dfs q l (chV V k c)).map (fun r => ((k, c) :: r.1, r.2)) else none) 8 0 with
        | some r' =>
          rw [hg] at h1
          exact h1
        | none =>
          rw [hg] at h1
          obtain ⟨I', l5', e1, a1, a2⟩ := h1
          rw [e1]
          exact ih (k + 1) I' _ l5' (by omega) a1 a2
    have hT := hK (vn V) 0 I0 none none (by omega) rfl FPl.rf
    have hrun : evm (d + (l + 1) + 7) 227 [aR (12, 0, 0), aI (N m), aI (N (l + 1))] (I0, M, R, G) = ev (evm (d + l + 7)) 227 27 [some (aR (12, 0, 0)), some (aI (N m)), some (aI (N (l + 1))), some (aI (N 0)), none, none] [] [] (I0, M, R, G) := by
      show evm (d + l + 7 + 1) 227 [aR (12, 0, 0), aI (N m), aI (N (l + 1))] (I0, M, R, G) = _
      rw [m227]
      simp only [s227_0, s227_1, s227_4, s227_5, s227_6, s227_9, s227_12, s227_13, s227_16, s227_19, s227_20, s227_23, s227_24, s227_25, s227_26, en0, if_false, if_true, ck_v, ck_x, Option.toList, List.cons_append, List.nil_append, kil_nil, N_1, o10, o00, exN_0, exN_1, exN_2, exN_3, exN_4, exN_5, Ex]
      rfl
    rw [hrun]
    exact hT
end PLANS
