/-! THE METHODS' MEANING: the queue's run -/
section LBQ2
variable {d : Nat} {I I' I'' : OId → Nat → Int32} {M R : OId → Nat → AV} {G : SG} {V : Vw} {L : List Nat} {q : Qy}
theorem bqs {f m : Nat} (hR : RF R) (hmf : m + f = 2) (hl7 : (Ls V (qs q)).length ≤ 7) (Kn : f ≠ 0 → ∀ (w : Vw) (rest : List Vw) (h : Nat) (I : OId → Nat → Int32), NS I V (Ls V (qs q)) → SV I V q (Ls V (qs q)) → QE I (Ls V (qs q)) h (w :: rest) → (∀ V', V' ∈ w :: rest → St q V V') → bnd (f - 1) h (rest.length + 1) 0 → ∃ I', ev (evm (d + 4)) 143 48 [some (aR (8, 0, 0)), some (aI (N (h + 1 + rest.length))), some (aI (N (m + 1))), some (aI (N (h + 1 + rest.length))), some (aI (N h))] [] [] (I, M, R, G) = some (.inl (some (aI (och (rbn q f m (w :: rest))))), (I', M, R, G)) ∧ FS I I') : ∀ (rest : List Vw) (v : Vw) (next : List Vw) (h : Nat) (I : OId → Nat → Int32), NS I V (Ls V (qs q)) → SV I V q (Ls V (qs q)) → QE I (Ls V (qs q)) h (v :: rest ++ next) → (∀ V', V' ∈ v :: rest ++ next → St q V V') → bnd f h (rest.length + 1) next.length → (f = 0 → next = []) → ∃ I', ev (evm (d + 4)) 143 48 [some (aR (8, 0, 0)), some (aI (N (h + 1 + rest.length + next.length))), some (aI (N m)), some (aI (N (h + 1 + rest.length))), some (aI (N h))] [] [] (I, M, R, G) = some (.inl (some (aI (och (if (v :: rest).any (opq q) = true then some m else rbn q f m (next ++ (v :: rest).flatMap (suc q)))))), (I', M, R, G)) ∧ FS I I' := by
  intro rest
  induction rest with
  | nil =>
    intro v next h I hN hS hE hSt hb hf
    have hv := hSt v (by simp)
    have hsl := suc_len (q := q) hv.2.2.2.2.2.2.1
    obtain ⟨c0, c1, c2⟩ := hb
    simp only [List.length_nil] at c0 c1 c2
    simp only [List.length_nil, Nat.add_zero]
    have hend : h + 1 + next.length + (if m < 2 then (suc q v).length else 0) ≤ 2451 := by
      split <;> omega
    have h32 : I (32, 0, 0) h = N (pk v (Ls V (qs q))) := by
      have := hE 0 v rfl
      rwa [Nat.add_zero] at this
    have hp := pv (d := d) (M := M) (G := G) (m := m) (h := h) (e := h + 1 + next.length) (eom := h + 1) hR (by omega) hl7 hN hS hv h32 (by omega) hend
    cases ho : opq q v with
    | true =>
      obtain ⟨I', e1, a1⟩ := hp.1 ho
      refine ⟨I', ?_, a1⟩
      rw [if_pos (by simp [ho])]
      exact e1
    | false =>
      obtain ⟨I1, e1, a1, a2, a3⟩ := hp.2 ho
      have hlist : (if m < 2 then next ++ suc q v else next).length = next.length + (if m < 2 then (suc q v).length else 0) := by
        split
        · exact List.length_append
        · rfl
      rw [if_neg (by simp [ho])]
      have hE1 : QE I1 (Ls V (qs q)) (h + 1) (if m < 2 then next ++ suc q v else next) := fun j V' hj => by
        have hnx : ∀ j V', next[j]? = some V' → I1 (32, 0, 0) (h + 1 + j) = N (pk V' (Ls V (qs q))) := fun j V' hj => by
          have hjl := gx hj
          rw [a2 _ (by omega)]
          have := hE (j + 1) V' (by show next[j]? = some V'; exact hj)
          rw [show h + 1 + j = h + (j + 1) by omega]
          exact this
        by_cases hm2 : m < 2
        · rw [if_pos hm2] at hj
          by_cases hjl : j < next.length
          · rw [List.getElem?_append_left hjl] at hj
            exact hnx j V' hj
          · rw [List.getElem?_append_right (by omega)] at hj
            have := a3 hm2 _ V' hj
            rw [show h + 1 + next.length + (j - next.length) = h + 1 + j by omega] at this
            exact this
        · rw [if_neg hm2] at hj
          exact hnx j V' hj
      have hSt1 : ∀ V', V' ∈ (if m < 2 then next ++ suc q v else next) → St q V V' := fun V' hV' => by
        by_cases hm2 : m < 2
        · rw [if_pos hm2, List.mem_append] at hV'
          rcases hV' with hV' | hV'
          · exact hSt V' (by simp [hV'])
          · exact st_suc hv hV'
        · rw [if_neg hm2] at hV'
          exact hSt V' (by simp [hV'])
      cases hW : (if m < 2 then next ++ suc q v else next) with
      | nil =>
        have hnl : next.length + (if m < 2 then (suc q v).length else 0) = 0 := by rw [← hlist, hW]; rfl
        have hnn : next ++ [v].flatMap (suc q) = [] ∨ f = 0 := by
          by_cases hm2 : m < 2
          · rw [if_pos hm2] at hW
            exact Or.inl (by simpa using hW)
          · exact Or.inr (by omega)
        have hres : rbn q f m (next ++ [v].flatMap (suc q)) = none := by
          rcases hnn with w | w
          · rw [w]; exact rbn_nil
          · subst w; rfl
        have eo : och none = -1 := rfl
        rw [hres, eo]
        refine ⟨I1, ?_, a1.fs⟩
        have eend : h + 1 + next.length + (if m < 2 then (suc q v).length else 0) = h + 1 := by omega
        rw [eend] at e1
        refine e1.trans ?_
        rw [s143_21]
        by_cases h9 : h + 1 < 2451
        · have q1 : (N 2451 ≤ N (h + 1)) = False := N_ge h9 (by decide)
          have q2 : (N (h + 1) ≤ N (h + 1)) = True := N_ge1 (Nat.le_refl _) (by omega)
          simp only [m143, s143_0, s143_1, s143_4, s143_5, s143_6, s143_9, s143_12, s143_13, s143_14, s143_15, s143_16, s143_17, s143_18, s143_19, s143_23, s143_24, s143_27, s143_28, s143_31, s143_33, s143_34, s143_37, s143_39, s143_40, s143_43, s143_46, s143_47, s143_49, s143_50, s143_53, s143_55, s143_58, s143_61, s143_62, s143_65, s143_68, s143_69, s143_70, s143_71, s143_72, s143_75, s143_76, s143_77, s143_80, s143_81, s143_84, s143_87, s143_88, hR.s.2.2.2.2, kN32, q1, q2, if_false, if_true, ck_v, ck_x, Option.toList, List.cons_append, List.nil_append, kil_nil, N_1, o10, o00, exN_0, exN_1, exN_2, exN_3, exN_4, exN_5, Ex]
        · have q1 : (N 2451 ≤ N (h + 1)) = True := N_ge1 (by omega) (by omega)
          simp only [m143, s143_0, s143_1, s143_4, s143_5, s143_6, s143_9, s143_12, s143_13, s143_14, s143_15, s143_16, s143_17, s143_18, s143_19, s143_23, s143_24, s143_27, s143_28, s143_31, s143_33, s143_34, s143_37, s143_39, s143_40, s143_43, s143_46, s143_47, s143_49, s143_50, s143_53, s143_55, s143_58, s143_61, s143_62, s143_65, s143_68, s143_69, s143_70, s143_71, s143_72, s143_75, s143_76, s143_77, s143_80, s143_81, s143_84, s143_87, s143_88, hR.s.2.2.2.2, kN32, q1, if_false, if_true, ck_v, ck_x, Option.toList, List.cons_append, List.nil_append, kil_nil, N_1, o10, o00, exN_0, exN_1, exN_2, exN_3, exN_4, exN_5, Ex]
      | cons w rest' =>
        have hm2 : m < 2 := by
          rcases Nat.lt_or_ge m 2 with x | x
          · exact x
          · rw [if_neg (by omega), hf (by omega)] at hW
            cases hW
        rw [if_pos hm2] at hW hlist
        rw [if_pos hm2, hW] at hE1 hSt1
        have hlen : next.length + (suc q v).length = rest'.length + 1 := by
          have := hlist
          rw [if_pos hm2] at this
          rw [← this, hW]
          rfl
        rw [if_pos hm2] at e1 hend
        have eend : h + 1 + next.length + (suc q v).length = h + 1 + 1 + rest'.length := by omega
        rw [eend] at e1
        have hb1 : bnd (f - 1) (h + 1) (rest'.length + 1) 0 := ⟨fun _ => by omega, fun _ => by omega, fun _ => by omega⟩
        obtain ⟨I2, e2, b1⟩ := Kn (by omega) w rest' (h + 1) I1 (hN.fq a1) (hS.fq a1) hE1 hSt1 hb1
        refine ⟨I2, ?_, a1.fs.tr b1⟩
        have hfm : next ++ [v].flatMap (suc q) = w :: rest' := by rw [← hW]; simp
        rw [hfm]
        refine e1.trans (Eq.trans ?_ e2)
        have q1 : (N 2451 ≤ N (h + 1)) = False := N_ge (by omega) (by decide)
        have q2 : (N (h + 1 + 1 + rest'.length) ≤ N (h + 1)) = False := N_ge (by omega) (by omega)
        have q3 : (N (h + 1) = N (h + 1)) = True := eq_true rfl
        rw [s143_21]
        simp only [m143, s143_0, s143_1, s143_4, s143_5, s143_6, s143_9, s143_12, s143_13, s143_14, s143_15, s143_16, s143_17, s143_18, s143_19, s143_23, s143_24, s143_27, s143_28, s143_31, s143_33, s143_34, s143_37, s143_39, s143_40, s143_43, s143_46, s143_47, s143_49, s143_50, s143_53, s143_55, s143_58, s143_61, s143_62, s143_65, s143_68, s143_69, s143_70, s143_71, s143_72, s143_75, s143_76, s143_77, s143_80, s143_81, s143_84, s143_87, s143_88, hR.s.2.2.2.2, kN32, q1, q2, if_false, if_true, ck_v, ck_x, Option.toList, List.cons_append, List.nil_append, kil_nil, N_1, o10, o00, exN_0, exN_1, exN_2, exN_3, exN_4, exN_5, Ex]
  | cons w rest ih =>
    intro v next h I hN hS hE hSt hb hf
    have hv := hSt v (by simp)
    have hsl := suc_len (q := q) hv.2.2.2.2.2.2.1
    simp only [List.length_cons] at hb ⊢
    obtain ⟨c0, c1, c2⟩ := hb
    have hf2 : f < 2 := by omega
    have hend : h + 1 + (rest.length + 1) + next.length + (if m < 2 then (suc q v).length else 0) ≤ 2451 := by
      split <;> omega
    have h32 : I (32, 0, 0) h = N (pk v (Ls V (qs q))) := by
      have := hE 0 v rfl
      rwa [Nat.add_zero] at this
    have hp := pv (d := d) (M := M) (G := G) (m := m) (h := h) (e := h + 1 + (rest.length + 1) + next.length) (eom := h + 1 + (rest.length + 1)) hR (by omega) hl7 hN hS hv h32 (by omega) hend
    cases ho : opq q v with
    | true =>
      obtain ⟨I', e1, a1⟩ := hp.1 ho
      refine ⟨I', ?_, a1⟩
      rw [if_pos (by simp [ho])]
      exact e1
    | false =>
      obtain ⟨I1, e1, a1, a2, a3⟩ := hp.2 ho
      have hlist : (if m < 2 then next ++ suc q v else next).length = next.length + (if m < 2 then (suc q v).length else 0) := by
        split
        · exact List.length_append
        · rfl
      have hE1 : QE I1 (Ls V (qs q)) (h + 1) (w :: rest ++ (if m < 2 then next ++ suc q v else next)) := fun j V' hj => by
        have hold : ∀ j V', (w :: rest ++ next)[j]? = some V' → I1 (32, 0, 0) (h + 1 + j) = N (pk V' (Ls V (qs q))) := fun j V' hj => by
          have hjl := gx hj
          simp only [List.cons_append, List.length_cons, List.length_append] at hjl
          rw [a2 _ (by omega)]
          have := hE (j + 1) V' (by show (w :: rest ++ next)[j]? = some V'; exact hj)
          rw [show h + 1 + j = h + (j + 1) by omega]
          exact this
        by_cases hm2 : m < 2
        · rw [if_pos hm2, ← List.append_assoc] at hj
          by_cases hjl : j < (w :: rest ++ next).length
          · rw [List.getElem?_append_left hjl] at hj
            exact hold j V' hj
          · rw [List.getElem?_append_right (by omega)] at hj
            have := a3 hm2 _ V' hj
            simp only [List.cons_append, List.length_cons, List.length_append] at hjl this
            rw [show h + 1 + (rest.length + 1) + next.length + (j - (rest.length + next.length + 1)) = h + 1 + j by omega] at this
            exact this
        · rw [if_neg hm2] at hj
          exact hold j V' hj
      have hSt1 : ∀ V', V' ∈ (w :: rest ++ (if m < 2 then next ++ suc q v else next)) → St q V V' := fun V' hV' => by
        rw [List.mem_append] at hV'
        rcases hV' with hV' | hV'
        · exact hSt V' (by
            rw [List.mem_append]
            exact Or.inl (List.mem_cons_of_mem _ hV'))
        · by_cases hm2 : m < 2
          · rw [if_pos hm2, List.mem_append] at hV'
            rcases hV' with hV' | hV'
            · exact hSt V' (by
                rw [List.mem_append]
                exact Or.inr hV')
            · exact st_suc hv hV'
          · rw [if_neg hm2] at hV'
            exact hSt V' (by
              rw [List.mem_append]
              exact Or.inr hV')
      have hb1 : bnd f (h + 1) (rest.length + 1) (if m < 2 then next ++ suc q v else next).length := by
        rw [hlist]
        refine ⟨fun _ => ?_, fun _ => ?_, fun _ => by omega⟩
        · split <;> omega
        · split <;> omega
      obtain ⟨I2, e2, b1⟩ := ih w (if m < 2 then next ++ suc q v else next) (h + 1) I1 (hN.fq a1) (hS.fq a1) hE1 hSt1 hb1 (fun h0 => by
        rw [if_neg (by omega)]
        exact hf h0)
      refine ⟨I2, ?_, a1.fs.tr b1⟩
      have hres : (if (v :: w :: rest).any (opq q) = true then some m else rbn q f m (next ++ (v :: w :: rest).flatMap (suc q))) = (if (w :: rest).any (opq q) = true then some m else rbn q f m ((if m < 2 then next ++ suc q v else next) ++ (w :: rest).flatMap (suc q))) := by
        rw [List.any_cons, ho, Bool.false_or]
        by_cases hm2 : m < 2
        · rw [if_pos hm2, List.flatMap_cons, List.append_assoc]
        · have : f = 0 := by omega
          subst this
          have e0 : ∀ W, rbn q 0 m W = none := fun _ => rfl
          rw [e0, e0]
      rw [hres]
      refine e1.trans (Eq.trans ?_ e2)
      rw [hlist]
      have q1 : (N 2451 ≤ N (h + 1)) = False := N_ge (by omega) (by decide)
      have q2 : (N (h + 1 + (rest.length + 1) + next.length + (if m < 2 then (suc q v).length else 0)) ≤ N (h + 1)) = False := N_ge (by omega) (by omega)
      have q3 : (N (h + 1) = N (h + 1 + (rest.length + 1))) = False := by
        rw [N_inj (by omega) (by omega)]
        exact eq_false (by omega)
      have x1 : h + 1 + 1 + rest.length = h + 1 + (rest.length + 1) := by omega
      have x2 : h + 1 + 1 + rest.length + (next.length + (if m < 2 then (suc q v).length else 0)) = h + 1 + (rest.length + 1) + next.length + (if m < 2 then (suc q v).length else 0) := by omega
      rw [x2, x1, s143_21]
      simp only [m143, s143_0, s143_1, s143_4, s143_5, s143_6, s143_9, s143_12, s143_13, s143_14, s143_15, s143_16, s143_17, s143_18, s143_19, s143_23, s143_24, s143_27, s143_28, s143_31, s143_33, s143_34, s143_37, s143_39, s143_40, s143_43, s143_46, s143_47, s143_49, s143_50, s143_53, s143_55, s143_58, s143_61, s143_62, s143_65, s143_68, s143_69, s143_70, s143_71, s143_72, s143_75, s143_76, s143_77, s143_80, s143_81, s143_84, s143_87, s143_88, hR.s.2.2.2.2, kN32, q1, q2, q3, if_false, if_true, ck_v, ck_x, Option.toList, List.cons_append, List.nil_append, kil_nil, N_1, o10, o00, exN_0, exN_1, exN_2, exN_3, exN_4, exN_5, Ex]
theorem bq0 (hR : RF R) (hl7 : (Ls V (qs q)).length ≤ 7) (rest : List Vw) (v : Vw) (h : Nat) (hN : NS I V (Ls V (qs q))) (hS : SV I V q (Ls V (qs q))) (hE : QE I (Ls V (qs q)) h (v :: rest)) (hSt : ∀ V', V' ∈ v :: rest → St q V V') (hb : bnd 0 h (rest.length + 1) 0) : ∃ I', ev (evm (d + 4)) 143 48 [some (aR (8, 0, 0)), some (aI (N (h + 1 + rest.length))), some (aI (N 2)), some (aI (N (h + 1 + rest.length))), some (aI (N h))] [] [] (I, M, R, G) = some (.inl (some (aI (och (rb q 0 2 (v :: rest))))), (I', M, R, G)) ∧ FS I I' := by
  obtain ⟨I', e1, f1⟩ := bqs (d := d) (M := M) (G := G) (f := 0) (m := 2) hR (by decide) hl7 (fun h => absurd rfl h) rest v [] h I hN hS (by rw [List.append_nil]; exact hE) (by rw [List.append_nil]; exact hSt) hb (fun _ => rfl)
  refine ⟨I', ?_, f1⟩
  rw [rb_eq]
  have e0 : ∀ W, rbn q 0 2 W = none := fun _ => rfl
  rw [e0] at e1 ⊢
  exact e1
theorem bq1 (hR : RF R) (hl7 : (Ls V (qs q)).length ≤ 7) (rest : List Vw) (v : Vw) (h : Nat) (hN : NS I V (Ls V (qs q))) (hS : SV I V q (Ls V (qs q))) (hE : QE I (Ls V (qs q)) h (v :: rest)) (hSt : ∀ V', V' ∈ v :: rest → St q V V') (hb : bnd 1 h (rest.length + 1) 0) : ∃ I', ev (evm (d + 4)) 143 48 [some (aR (8, 0, 0)), some (aI (N (h + 1 + rest.length))), some (aI (N 1)), some (aI (N (h + 1 + rest.length))), some (aI (N h))] [] [] (I, M, R, G) = some (.inl (some (aI (och (rb q 1 1 (v :: rest))))), (I', M, R, G)) ∧ FS I I' := by
  obtain ⟨I', e1, f1⟩ := bqs (d := d) (M := M) (G := G) (f := 1) (m := 1) hR (by decide) hl7 (fun _ w rest h I hN hS hE hSt hb => bq0 hR hl7 rest w h hN hS hE hSt hb) rest v [] h I hN hS (by rw [List.append_nil]; exact hE) (by rw [List.append_nil]; exact hSt) hb (fun h => absurd h (by decide))
  refine ⟨I', ?_, f1⟩
  rw [List.nil_append, ← rb_eq] at e1
  exact e1
theorem bq2 (hR : RF R) (hl7 : (Ls V (qs q)).length ≤ 7) (v : Vw) (hN : NS I V (Ls V (qs q))) (hS : SV I V q (Ls V (qs q))) (hE : QE I (Ls V (qs q)) 0 [v]) (hSt : St q V v) : ∃ I', ev (evm (d + 4)) 143 48 [some (aR (8, 0, 0)), some (aI (N (0 + 1 + 0))), some (aI (N 0)), some (aI (N (0 + 1 + 0))), some (aI (N 0))] [] [] (I, M, R, G) = some (.inl (some (aI (och (rb q 2 0 [v])))), (I', M, R, G)) ∧ FS I I' := by
  obtain ⟨I', e1, f1⟩ := bqs (d := d) (M := M) (G := G) (f := 2) (m := 0) hR (by decide) hl7 (fun _ w rest h I hN hS hE hSt hb => bq1 hR hl7 rest w h hN hS hE hSt hb) [] v [] 0 I hN hS (by rw [List.append_nil]; exact hE) (fun V' hV' => by
    rw [List.append_nil, List.mem_singleton] at hV'
    rw [hV']; exact hSt) ⟨fun h => absurd h (by decide), fun h => absurd h (by decide), fun _ => ⟨rfl, by decide⟩⟩ (fun h => absurd h (by decide))
  refine ⟨I', ?_, f1⟩
  rw [List.nil_append, ← rb_eq] at e1
  exact e1
theorem leastByQueue_ok (hR : RF R) (hW : WV V) (hQ : QB V q) (hN : NT I V (Ls V (qs q))) (hS : SV I V q (Ls V (qs q))) : ∃ I', evm (d + 5) 143 [aR (8, 0, 0)] (I, M, R, G) = some (.inl (some (aI (och ((planF q V).map (fun r => r.1.length))))), (I', M, R, G)) ∧ FS I I' := by
  have hl7 := ls_7 (V := V) (e := qs q) hW.2.1
  have hpk := pack_ok (d := d + 2) (M := M) (G := G) hR hN (cb_w hW) hl7
  have hF : FQ I (setI I (32, 0, 0) 0 (N (pk V (Ls V (qs q))))) := fun o _ b => setI_ne b
  obtain ⟨I', e1, f1⟩ := bq2 (d := d) (M := M) (G := G) (V := V) (q := q) hR hl7 V (hN.ns.fq hF) (hS.fq hF) (fun j V' hj => by
    cases j with
    | zero =>
      simp only [List.getElem?_cons_zero, Option.some.injEq] at hj
      rw [← hj, Nat.add_zero, setI_at, if_pos rfl]
    | succ j => simp at hj) (st_rf hW hQ)
  rw [planF_rb]
  refine ⟨I', ?_, hF.fs.tr f1⟩
  refine Eq.trans ?_ e1
  have p0 := put_N (d := d + 3) (S := (I, M, R, G)) (o := (32, 0, 0)) (k := 0) (x := N (pk V (Ls V (qs q)))) k32 rfl (by decide) (by decide)
  have p0' : evm (d + 4) 35 [aR (32, 0, 0), aI 0, aI (N (pk V (Ls V (qs q))))] (I, M, R, G) = some (.inl none, (setI I (32, 0, 0) 0 (N (pk V (Ls V (qs q)))), M, R, G)) := p0
  have q1 : ((N 2451 : Int32) ≤ 0) = False := N_ge (a := 0) (b := 2451) (by decide) (by decide)
  have q2 : ((1 : Int32) ≤ 0) = False := by decide
  have q3 : ((0 : Int32) = 1) = False := by decide
  rw [m143]
  simp only [s143_0, s143_1, s143_4, s143_5, s143_6, s143_9, s143_12, s143_13, s143_14, s143_15, s143_16, s143_17, s143_18, s143_19, hR.s.2.2.2.2, hpk, p0', if_false, if_true, ck_v, ck_x, Option.toList, List.cons_append, List.nil_append, kil_nil, N_1, o10, o00, exN_0, exN_1, exN_2, exN_3, exN_4, exN_5, Ex]
  rw [s143_21]
  simp only [m143, s143_0, s143_1, s143_4, s143_5, s143_6, s143_9, s143_12, s143_13, s143_14, s143_15, s143_16, s143_17, s143_18, s143_19, s143_23, s143_24, s143_27, s143_28, s143_31, s143_33, s143_34, s143_37, s143_39, s143_40, s143_43, s143_46, s143_47, s143_49, s143_50, s143_53, s143_55, s143_58, s143_61, s143_62, s143_65, s143_68, s143_69, s143_70, s143_71, s143_72, s143_75, s143_76, s143_77, s143_80, s143_81, s143_84, s143_87, s143_88, hR.s.2.2.2.2, kN32, q1, q2, q3, if_false, if_true, ck_v, ck_x, Option.toList, List.cons_append, List.nil_append, kil_nil, N_1, o10, o00, exN_0, exN_1, exN_2, exN_3, exN_4, exN_5, Ex]
  rfl
theorem CR.movesByQueue {x y : Int32} {r : Pln} {B : Bk} {hs : List Bk} {sn : Option Bk} (hR : RF R) (h : CR I B hs sn) (hW : WV B.1) (h1 : rg x 0 99 ∧ rg y 0 99) (hp : planF ((x, y), none, none, none) B.1 = some r) : ∃ I', evm (d + 7) 141 [aR (11, 0, 0), aI x, aI y] (I, M, R, G) = some (.inl (some (aI (N r.1.length))), (I', M, R, G)) ∧ FS I I' := by
  obtain ⟨I1, e1, n1, s1, f1⟩ := serveNew_ok (d := d) (M := M) (G := G) (x := x) (y := y) hR hW h.1.1
  obtain ⟨I2, e2, f2⟩ := leastByQueue_ok (d := d) (M := M) (G := G) hR hW qb_n n1 s1
  rw [hp] at e2
  have e2' : evm (d + 5) 143 [aR (8, 0, 0)] (I1, M, R, G) = some (.inl (some (aI (N r.1.length))), (I2, M, R, G)) := e2
  have hl := (planF_val hp).1
  refine ⟨I2, ?_, f1.tr f2⟩
  simp only [m141, s141_0, s141_1, s141_2, s141_5, s141_6, s141_9, s141_10, s141_13, s141_14, s141_15, s141_18, s141_19, s141_22, m142, s142_0, s142_1, s142_4, s142_7, s142_8, s142_9, s142_10, s142_13, s142_16, s142_24, s142_25, checkPoint_ok, if_pos h1, hR.o.1, hR.o.2.2.2.1, e1, e2', m1N (show r.1.length < 2147483648 by omega), if_false, if_true, ck_v, ck_x, Option.toList, List.cons_append, List.nil_append, kil_nil, N_1, o10, o00, exN_0, exN_1, exN_2, exN_3, exN_4, exN_5, Ex]
theorem CR.movesByQueue_no {x y : Int32} {B : Bk} {hs : List Bk} {sn : Option Bk} (hR : RF R) (h : CR I B hs sn) (hW : WV B.1) (h1 : rg x 0 99 ∧ rg y 0 99) (hp : planF ((x, y), none, none, none) B.1 = none) : ∃ I', evm (d + 7) 141 [aR (11, 0, 0), aI x, aI y] (I, M, R, G) = Ex 2 (I', M, R, G) ∧ FS I I' := by
  obtain ⟨I1, e1, n1, s1, f1⟩ := serveNew_ok (d := d) (M := M) (G := G) (x := x) (y := y) hR hW h.1.1
  obtain ⟨I2, e2, f2⟩ := leastByQueue_ok (d := d) (M := M) (G := G) hR hW qb_n n1 s1
  rw [hp] at e2
  have e2' : evm (d + 5) 143 [aR (8, 0, 0)] (I1, M, R, G) = some (.inl (some (aI (-1))), (I2, M, R, G)) := e2
  refine ⟨I2, ?_, f1.tr f2⟩
  simp only [m141, s141_0, s141_1, s141_2, s141_5, s141_6, s141_9, s141_10, s141_13, s141_14, s141_15, s141_18, s141_19, s141_22, m142, s142_0, s142_1, s142_4, s142_7, s142_8, s142_9, s142_10, s142_13, s142_16, s142_24, s142_25, checkPoint_ok, if_pos h1, hR.o.1, hR.o.2.2.2.1, e1, e2', if_false, if_true, ck_v, ck_x, Option.toList, List.cons_append, List.nil_append, kil_nil, N_1, o10, o00, exN_0, exN_1, exN_2, exN_3, exN_4, exN_5, Ex]
theorem movesByQueue_no0 {x y : Int32} (h1 : ¬ (rg x 0 99 ∧ rg y 0 99)) : evm (d + 7) 141 [aR (11, 0, 0), aI x, aI y] (I, M, R, G) = Ex 0 (I, M, R, G) := by
  simp only [m141, s141_0, s141_1, s141_2, s141_5, s141_6, s141_9, s141_10, s141_13, s141_14, s141_15, s141_18, s141_19, s141_22, checkPoint_ok, if_neg h1, if_false, if_true, ck_v, ck_x, Option.toList, List.cons_append, List.nil_append, kil_nil, N_1, o10, o00, exN_0, exN_1, exN_2, exN_3, exN_4, exN_5, Ex]
theorem CR.changeByQueue {id : Int32} {w : Nat} {r : Pln} {B : Bk} {hs : List Bk} {sn : Option Bk} (hR : RF R) (h : CR I B hs sn) (hW : WV B.1) (hw : w < 8) (h1 : wcT B.1 id (N w) = 0) (hp : planF (qsl B.1 (fid B.1 id) (some w) none) B.1 = some r) : ∃ I', evm (d + 8) 153 [aR (11, 0, 0), aI id, aI (N w)] (I, M, R, G) = some (.inl (some (aI (N r.1.length))), (I', M, R, G)) ∧ FS I I' := by
  obtain ⟨g1, g2, g3, g4⟩ := wcT_0 h1
  obtain ⟨I1, e1, n1, s1, f1⟩ := serveChange_ok (d := d) (M := M) (G := G) (w := w) hR hW h.1.1 g1 hw
  obtain ⟨I2, e2, f2⟩ := leastByQueue_ok (d := d + 1) (M := M) (G := G) hR hW (qb_s g1 hw) n1 s1
  rw [hp] at e2
  have e2' : evm (d + 6) 143 [aR (8, 0, 0)] (I1, M, R, G) = some (.inl (some (aI (N r.1.length))), (I2, M, R, G)) := e2
  have hl := (planF_val hp).1
  refine ⟨I2, ?_, f1.tr f2⟩
  simp only [m153, s153_0, s153_1, s153_2, s153_5, s153_6, s153_7, s153_8, s153_9, s153_12, s153_13, s153_16, s153_17, s153_20, s153_21, s153_22, s153_25, s153_26, s153_29, m142, s142_0, s142_1, s142_4, s142_7, s142_8, s142_9, s142_10, s142_13, s142_16, s142_24, s142_25, placeOf_ok hR h.1.1, if_pos g1, checkChange_ok hR h.1.1 g1, if_pos g2, if_pos (show vl B.1 (fid B.1 id) = true ∧ vf B.1 (fid B.1 id) 3 ≠ N w from ⟨g3, g4⟩), hR.o.1, hR.o.2.2.2.1, e1, e2', m1N (show r.1.length < 2147483648 by omega), if_false, if_true, ck_v, ck_x, Option.toList, List.cons_append, List.nil_append, kil_nil, N_1, o10, o00, exN_0, exN_1, exN_2, exN_3, exN_4, exN_5, Ex]
theorem CR.changeByQueue_no2 {id : Int32} {w : Nat} {B : Bk} {hs : List Bk} {sn : Option Bk} (hR : RF R) (h : CR I B hs sn) (hW : WV B.1) (hw : w < 8) (h1 : wcT B.1 id (N w) = 0) (hp : planF (qsl B.1 (fid B.1 id) (some w) none) B.1 = none) : ∃ I', evm (d + 8) 153 [aR (11, 0, 0), aI id, aI (N w)] (I, M, R, G) = Ex 2 (I', M, R, G) ∧ FS I I' := by
  obtain ⟨g1, g2, g3, g4⟩ := wcT_0 h1
  obtain ⟨I1, e1, n1, s1, f1⟩ := serveChange_ok (d := d) (M := M) (G := G) (w := w) hR hW h.1.1 g1 hw
  obtain ⟨I2, e2, f2⟩ := leastByQueue_ok (d := d + 1) (M := M) (G := G) hR hW (qb_s g1 hw) n1 s1
  rw [hp] at e2
  have e2' : evm (d + 6) 143 [aR (8, 0, 0)] (I1, M, R, G) = some (.inl (some (aI (-1))), (I2, M, R, G)) := e2
  refine ⟨I2, ?_, f1.tr f2⟩
  simp only [m153, s153_0, s153_1, s153_2, s153_5, s153_6, s153_7, s153_8, s153_9, s153_12, s153_13, s153_16, s153_17, s153_20, s153_21, s153_22, s153_25, s153_26, s153_29, m142, s142_0, s142_1, s142_4, s142_7, s142_8, s142_9, s142_10, s142_13, s142_16, s142_24, s142_25, placeOf_ok hR h.1.1, if_pos g1, checkChange_ok hR h.1.1 g1, if_pos g2, if_pos (show vl B.1 (fid B.1 id) = true ∧ vf B.1 (fid B.1 id) 3 ≠ N w from ⟨g3, g4⟩), hR.o.1, hR.o.2.2.2.1, e1, e2', if_false, if_true, ck_v, ck_x, Option.toList, List.cons_append, List.nil_append, kil_nil, N_1, o10, o00, exN_0, exN_1, exN_2, exN_3, exN_4, exN_5, Ex]
theorem CR.changeByQueue_no {id c : Int32} {B : Bk} {hs : List Bk} {sn : Option Bk} (hR : RF R) (h : CR I B hs sn) (h1 : wcT B.1 id c ≠ 0) : evm (d + 8) 153 [aR (11, 0, 0), aI id, aI c] (I, M, R, G) = Ex (wcE B.1 id c) (I, M, R, G) := by
  unfold wcE
  by_cases g1 : fid B.1 id < vn B.1
  · rw [if_pos g1]
    by_cases g2 : rg c 0 7
    · rw [if_pos g2]
      simp only [m153, s153_0, s153_1, s153_2, s153_5, s153_6, s153_7, s153_8, s153_9, s153_12, s153_13, s153_16, s153_17, s153_20, s153_21, s153_22, s153_25, s153_26, s153_29, placeOf_ok hR h.1.1, if_pos g1, checkChange_ok hR h.1.1 g1, if_pos g2, if_neg (wc_split h1 g1 g2), if_false, if_true, ck_v, ck_x, Option.toList, List.cons_append, List.nil_append, kil_nil, N_1, o10, o00, exN_0, exN_1, exN_2, exN_3, exN_4, exN_5, Ex]
    · rw [if_neg g2]
      simp only [m153, s153_0, s153_1, s153_2, s153_5, s153_6, s153_7, s153_8, s153_9, s153_12, s153_13, s153_16, s153_17, s153_20, s153_21, s153_22, s153_25, s153_26, s153_29, placeOf_ok hR h.1.1, if_pos g1, checkChange_ok hR h.1.1 g1, if_neg g2, if_false, if_true, ck_v, ck_x, Option.toList, List.cons_append, List.nil_append, kil_nil, N_1, o10, o00, exN_0, exN_1, exN_2, exN_3, exN_4, exN_5, Ex]
  · rw [if_neg g1]
    simp only [m153, s153_0, s153_1, s153_2, s153_5, s153_6, s153_7, s153_8, s153_9, s153_12, s153_13, s153_16, s153_17, s153_20, s153_21, s153_22, s153_25, s153_26, s153_29, placeOf_ok hR h.1.1, if_neg g1, if_false, if_true, ck_v, ck_x, Option.toList, List.cons_append, List.nil_append, kil_nil, N_1, o10, o00, exN_0, exN_1, exN_2, exN_3, exN_4, exN_5, Ex]
end LBQ2
