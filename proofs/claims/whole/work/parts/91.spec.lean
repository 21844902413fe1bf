/-! THE METHODS' MEANING: spans, the class's answers -/
def ILS (sp : Nat → Nat → Nat) (n k : Nat) : Prop := FE sp k n ∧ ∀ m, m < k → ¬ FE sp m n
theorem ILS_u {sp : Nat → Nat → Nat} {n a b : Nat} (ha : ILS sp n a) (hb : ILS sp n b) : a = b := by
  rcases Nat.lt_trichotomy a b with q | q | q
  · exact absurd ha.1 (hb.2 a q)
  · exact q
  · exact absurd hb.1 (ha.2 b q)
def Z0 (M : OId → Nat → AV) : Prop := ∀ x, x < 7 → M (34, 0, 0) x = aL 0
section SPANC
variable {d : Nat} {I I' : OId → Nat → Int32} {M M' R : OId → Nat → AV} {G : SG} {V : Vw} {L : List Nat}
theorem FE31 (hW : WV V) (hm : ∀ k, k ∈ L → k < vn V) (hL7 : L.length ≤ 7) : FE (gsp V L) 31 L.length := ⟨fun i => 5 * i, fun i hi => by show 5 * i < 31; omega, fun i j hi hj hij => by
  have := (gsp_ok hW hm hi hj).1
  show gsp V L i j ≤ dsn (5 * i) (5 * j)
  unfold dsn
  split <;> omega⟩
theorem sumSep_ok {k : Nat} (hR : RF R) (hN : NT I V L) (hL7 : L.length ≤ 7) (hk : k < 7) : ∃ v, evm (d + 3) 38 [aR (6, 0, 0), aI (N k)] (I, M, R, G) = some (.inl (some (aI v)), (I, M, R, G)) := by
  have hl : ∀ (r j : Nat) (s : Int32), j + r = L.length → ∃ v, ev (evm (d + 2)) 38 4 [some (aR (6, 0, 0)), some (aI (N k)), some (aI s), some (aI (N j))] [] [] (I, M, R, G) = some (.inl (some (aI v)), (I, M, R, G)) := by
    intro r
    induction r with
    | zero =>
      intro j s hj
      refine ⟨s, ?_⟩
      rw [s38_4]
      simp only [m38, s38_0, s38_1, s38_2, s38_3, s38_5, s38_6, s38_9, s38_12, s38_13, s38_14, s38_15, s38_18, s38_19, s38_22, s38_23, s38_24, s38_25, s38_28, s38_29, s38_30, s38_33, s38_36, s38_37, hN.1, N_ge1 (show L.length ≤ j by omega) (show j < 2147483648 by omega), if_false, if_true, ck_v, ck_x, Option.toList, List.cons_append, List.nil_append, kil_nil, N_1, o10, o00, exN_0, exN_1, exN_2, exN_3, exN_4, exN_5, Ex]
    | succ r ih =>
      intro j s hj
      have ejk : (N j = N k) = (j = k) := N_inj (by omega) (by omega)
      by_cases hjk : j = k
      · have ejk' : (N j = N k) = True := by rw [ejk]; exact eq_true hjk
        obtain ⟨v, e⟩ := ih (j + 1) (s + 0) (by omega)
        refine ⟨v, ?_⟩
        rw [s38_4]
        simp only [m38, s38_0, s38_1, s38_2, s38_3, s38_5, s38_6, s38_9, s38_12, s38_13, s38_14, s38_15, s38_18, s38_19, s38_22, s38_23, s38_24, s38_25, s38_28, s38_29, s38_30, s38_33, s38_36, s38_37, hN.1, N_ge (show j < L.length by omega) (show L.length < 2147483648 by omega), ejk', if_false, if_true, ck_v, ck_x, Option.toList, List.cons_append, List.nil_append, kil_nil, N_1, o10, o00, exN_0, exN_1, exN_2, exN_3, exN_4, exN_5, Ex]
        exact e
      · have ejk' : (N j = N k) = False := by rw [ejk]; exact eq_false hjk
        obtain ⟨v, e⟩ := ih (j + 1) (s + I (29, 0, 0) (7 * k + j)) (by omega)
        refine ⟨v, ?_⟩
        rw [s38_4]
        simp only [m38, s38_0, s38_1, s38_2, s38_3, s38_5, s38_6, s38_9, s38_12, s38_13, s38_14, s38_15, s38_18, s38_19, s38_22, s38_23, s38_24, s38_25, s38_28, s38_29, s38_30, s38_33, s38_36, s38_37, hN.1, N_ge (show j < L.length by omega) (show L.length < 2147483648 by omega), ejk', apart_ok hR hk (show j < 7 by omega), if_false, if_true, ck_v, ck_x, Option.toList, List.cons_append, List.nil_append, kil_nil, N_1, o10, o00, exN_0, exN_1, exN_2, exN_3, exN_4, exN_5, Ex]
        exact e
  obtain ⟨v, e⟩ := hl L.length 0 0 (by omega)
  refine ⟨v, ?_⟩
  rw [m38]
  simp only [s38_0, s38_1, s38_2, s38_3, kil_nil]
  exact e
theorem NT.f33 (h : NT I V L) (f : ∀ o, o ≠ (33, 0, 0) → I' o = I o) : NT I' V L := h.fr (f _ (by simp)) (f _ (by simp)) (f _ (by simp)) (f _ (by simp)) (f _ (by simp))
/-- the first k of what is sorted -/
def SO (I : OId → Nat → Int32) (b : Nat → Nat) (k : Nat) : Prop := (∀ i, i < k → I (33, 0, 0) i = N (b i) ∧ b i < k) ∧ ∀ i j, i < k → j < k → b i = b j → i = j
theorem soIn {k : Nat} {b : Nat → Nat} (hR : RF R) (hN : NT I V L) (hL7 : L.length ≤ 7) (hk : k < L.length) (hb : ∀ i, i < k → b i < k) : ∀ (p : Nat) (J : OId → Nat → Int32), p ≤ k → (∀ o, o ≠ (33, 0, 0) → J o = I o) → (∀ i, i < p → J (33, 0, 0) i = N (b i)) → (∀ i, p < i → i ≤ k → J (33, 0, 0) i = N (b (i - 1))) → ∃ p' J', ev (evm (d + 4)) 37 15 [some (aR (9, 0, 0)), some (aI (N k)), some (aI (N p))] [] [] (J, M, R, G) = ev (evm (d + 4)) 37 71 [some (aR (9, 0, 0)), some (aI (N k)), some (aI (N p'))] [] [] (J', M, R, G) ∧ p' ≤ k ∧ (∀ o, o ≠ (33, 0, 0) → J' o = I o) ∧ (∀ i, i < p' → J' (33, 0, 0) i = N (b i)) ∧ (∀ i, p' < i → i ≤ k → J' (33, 0, 0) i = N (b (i - 1)))
  | 0, J, hp, hF, h1, h2 => by
    refine ⟨0, J, ?_, hp, hF, h1, h2⟩
    have q1 : (N 0 ≤ 0) = True := N_ge1 (a := 0) (b := 0) (Nat.le_refl _) (by decide)
    rw [s37_15]
    simp only [s37_16, q1, if_true]
  | p + 1, J, hp, hF, h1, h2 => by
    have q1 : (N (p + 1) ≤ 0) = False := N_ge (a := 0) (b := p + 1) (by omega) (by omega)
    have em : N (p + 1) - 1 = N p := sub_N (by omega) (by omega)
    have ep : N (p + 1) + -1 = N p := by rw [addm]; exact em
    have hNJ := hN.f33 hF
    obtain ⟨v1, e1⟩ := sumSep_ok (d := d + 1) (M := M) (G := G) (k := b p) hR hNJ hL7 (by have := hb p (by omega); omega)
    obtain ⟨v2, e2⟩ := sumSep_ok (d := d + 1) (M := M) (G := G) (k := k) hR hNJ hL7 (by omega)
    have g33 := h1 p (by omega)
    by_cases hq : v2 ≤ v1
    · refine ⟨p + 1, J, ?_, hp, hF, h1, h2⟩
      rw [s37_15]
      simp only [m37, s37_0, s37_1, s37_3, s37_4, s37_7, s37_10, s37_13, s37_14, s37_16, s37_19, s37_20, s37_23, s37_24, s37_27, s37_28, s37_29, s37_30, s37_33, s37_36, s37_37, s37_40, s37_41, s37_44, s37_47, s37_48, s37_51, s37_52, s37_53, s37_56, s37_57, s37_58, s37_59, s37_62, s37_65, s37_68, s37_72, s37_75, s37_76, s37_77, s37_80, s37_83, s37_86, q1, hR.p.1, hR.p.2.1, em, get_N (S := (J, M, R, G)) k33 (fun _ => rfl) (show p < 7 by omega) (by decide), g33, e1, e2, if_pos hq, if_false, if_true, ck_v, ck_x, Option.toList, List.cons_append, List.nil_append, kil_nil, N_1, o10, o00, exN_0, exN_1, exN_2, exN_3, exN_4, exN_5, Ex]
    · obtain ⟨p', J', e3, a1, a2, a3, a4⟩ := soIn hR hN hL7 hk hb p (setI J (33, 0, 0) (p + 1) (N (b p))) (by omega) (fun o ho => by rw [setI_ne ho]; exact hF o ho) (fun i hi => by rw [setI_at, if_neg (by omega)]; exact h1 i (by omega)) (fun i hi hik => by
        rw [setI_at]
        by_cases hip : i = p + 1
        · rw [if_pos hip, hip]; rfl
        · rw [if_neg hip]; exact h2 i (by omega) hik)
      refine ⟨p', J', ?_, a1, a2, a3, a4⟩
      rw [s37_15]
      simp only [m37, s37_0, s37_1, s37_3, s37_4, s37_7, s37_10, s37_13, s37_14, s37_16, s37_19, s37_20, s37_23, s37_24, s37_27, s37_28, s37_29, s37_30, s37_33, s37_36, s37_37, s37_40, s37_41, s37_44, s37_47, s37_48, s37_51, s37_52, s37_53, s37_56, s37_57, s37_58, s37_59, s37_62, s37_65, s37_68, s37_72, s37_75, s37_76, s37_77, s37_80, s37_83, s37_86, q1, hR.p.1, hR.p.2.1, em, ep, get_N (S := (J, M, R, G)) k33 (fun _ => rfl) (show p < 7 by omega) (by decide), g33, e1, e2, if_neg hq, put_N (S := (J, M, R, G)) (o := (33, 0, 0)) k33 rfl (show p + 1 < 7 by omega) (by decide), if_false, if_true, ck_v, ck_x, Option.toList, List.cons_append, List.nil_append, kil_nil, N_1, o10, o00, exN_0, exN_1, exN_2, exN_3, exN_4, exN_5, Ex]
      exact e3
theorem sort_ok (hR : RF R) (hN : NT I V L) (hL7 : L.length ≤ 7) : ∃ I' b, evm (d + 5) 37 [aR (9, 0, 0)] (I, M, R, G) = some (.inl none, (I', M, R, G)) ∧ SO I' b L.length ∧ ∀ o, o ≠ (33, 0, 0) → I' o = I o := by
  have hl : ∀ (r k : Nat) (b : Nat → Nat) (J : OId → Nat → Int32) (l2 : Option AV), k + r = L.length → (∀ o, o ≠ (33, 0, 0) → J o = I o) → SO J b k → ∃ I' b', ev (evm (d + 4)) 37 2 [some (aR (9, 0, 0)), some (aI (N k)), l2] [] [] (J, M, R, G) = some (.inl none, (I', M, R, G)) ∧ SO I' b' L.length ∧ ∀ o, o ≠ (33, 0, 0) → I' o = I o := by
    intro r
    induction r with
    | zero =>
      intro k b J l2 hk hF hS
      have ek : k = L.length := by omega
      subst ek
      refine ⟨J, b, ?_, hS, hF⟩
      rw [s37_2]
      simp only [m37, s37_0, s37_1, s37_3, s37_4, s37_7, s37_10, s37_13, s37_14, s37_16, s37_19, s37_20, s37_23, s37_24, s37_27, s37_28, s37_29, s37_30, s37_33, s37_36, s37_37, s37_40, s37_41, s37_44, s37_47, s37_48, s37_51, s37_52, s37_53, s37_56, s37_57, s37_58, s37_59, s37_62, s37_65, s37_68, s37_71, s37_72, s37_75, s37_76, s37_77, s37_80, s37_83, s37_86, hR.p.1, (hN.f33 hF).1, N_ge1 (Nat.le_refl L.length) (show L.length < 2147483648 by omega), if_false, if_true, ck_v, ck_x, Option.toList, List.cons_append, List.nil_append, kil_nil, N_1, o10, o00, exN_0, exN_1, exN_2, exN_3, exN_4, exN_5, Ex]
    | succ r ih =>
      intro k b J l2 hk hF hS
      have hkl : k < L.length := by omega
      obtain ⟨p, J1, e1, a1, a2, a3, a4⟩ := soIn (d := d) (M := M) (G := G) (b := b) hR hN hL7 hkl (fun i hi => (hS.1 i hi).2) k J (Nat.le_refl _) hF (fun i hi => (hS.1 i hi).1) (fun i h1 h2 => by omega)
      obtain ⟨I', b', e2, c1, c2⟩ := ih (k + 1) (fun i => if i < p then b i else if i = p then k else b (i - 1)) (setI J1 (33, 0, 0) p (N k)) (some (aI (N p))) (by omega) (fun o ho => by rw [setI_ne ho]; exact a2 o ho) ⟨fun i hi => by
        rw [setI_at]
        show _ = N (if i < p then b i else if i = p then k else b (i - 1)) ∧ (if i < p then b i else if i = p then k else b (i - 1)) < k + 1
        by_cases h1 : i < p
        · rw [if_neg (by omega), if_pos h1]
          exact ⟨a3 i h1, by have := (hS.1 i (by omega)).2; omega⟩
        · rw [if_neg h1]
          by_cases h2 : i = p
          · rw [if_pos h2, if_pos h2]
            exact ⟨rfl, by omega⟩
          · rw [if_neg h2, if_neg h2]
            exact ⟨a4 i (by omega) (by omega), by have := (hS.1 (i - 1) (by omega)).2; omega⟩, fun i j hi hj q => by
        have q' : (if i < p then b i else if i = p then k else b (i - 1)) = (if j < p then b j else if j = p then k else b (j - 1)) := q
        have hbk : ∀ x, x < k → b x < k := fun x hx => (hS.1 x hx).2
        by_cases h1 : i < p
        · rw [if_pos h1] at q'
          by_cases g1 : j < p
          · rw [if_pos g1] at q'
            exact hS.2 i j (by omega) (by omega) q'
          · rw [if_neg g1] at q'
            by_cases g2 : j = p
            · rw [if_pos g2] at q'
              have := hbk i (by omega)
              omega
            · rw [if_neg g2] at q'
              have := hS.2 i (j - 1) (by omega) (by omega) q'
              omega
        · rw [if_neg h1] at q'
          by_cases h2 : i = p
          · rw [if_pos h2] at q'
            by_cases g1 : j < p
            · rw [if_pos g1] at q'
              have := hbk j (by omega)
              omega
            · rw [if_neg g1] at q'
              by_cases g2 : j = p
              · omega
              · rw [if_neg g2] at q'
                have := hbk (j - 1) (by omega)
                omega
          · rw [if_neg h2] at q'
            by_cases g1 : j < p
            · rw [if_pos g1] at q'
              have := hS.2 (i - 1) j (by omega) (by omega) q'
              omega
            · rw [if_neg g1] at q'
              by_cases g2 : j = p
              · rw [if_pos g2] at q'
                have := hbk (i - 1) (by omega)
                omega
              · rw [if_neg g2] at q'
                have := hS.2 (i - 1) (j - 1) (by omega) (by omega) q'
                omega⟩
      refine ⟨I', b', ?_, c1, c2⟩
      rw [s37_2]
      simp only [m37, s37_0, s37_1, s37_3, s37_4, s37_7, s37_10, s37_13, s37_14, s37_16, s37_19, s37_20, s37_23, s37_24, s37_27, s37_28, s37_29, s37_30, s37_33, s37_36, s37_37, s37_40, s37_41, s37_44, s37_47, s37_48, s37_51, s37_52, s37_53, s37_56, s37_57, s37_58, s37_59, s37_62, s37_65, s37_68, s37_71, s37_72, s37_75, s37_76, s37_77, s37_80, s37_83, s37_86, hR.p.1, (hN.f33 hF).1, N_ge hkl (show L.length < 2147483648 by omega), if_false, if_true, ck_v, ck_x, Option.toList, List.cons_append, List.nil_append, kil_nil, N_1, o10, o00, exN_0, exN_1, exN_2, exN_3, exN_4, exN_5, Ex]
      refine e1.trans ?_
      rw [s37_71]
      simp only [m37, s37_0, s37_1, s37_3, s37_4, s37_7, s37_10, s37_13, s37_14, s37_16, s37_19, s37_20, s37_23, s37_24, s37_27, s37_28, s37_29, s37_30, s37_33, s37_36, s37_37, s37_40, s37_41, s37_44, s37_47, s37_48, s37_51, s37_52, s37_53, s37_56, s37_57, s37_58, s37_59, s37_62, s37_65, s37_68, s37_71, s37_72, s37_75, s37_76, s37_77, s37_80, s37_83, s37_86, hR.p.2.1, put_N (S := (J1, M, R, G)) (o := (33, 0, 0)) k33 rfl (show p < 7 by omega) (by decide), if_false, if_true, ck_v, ck_x, Option.toList, List.cons_append, List.nil_append, kil_nil, N_1, o10, o00, exN_0, exN_1, exN_2, exN_3, exN_4, exN_5, Ex]
      exact e2
  obtain ⟨I', b', e, c1, c2⟩ := hl L.length 0 (fun _ => 0) I none (by omega) (fun _ _ => rfl) ⟨fun i hi => by omega, fun i j hi => by omega⟩
  refine ⟨I', b', ?_, c1, c2⟩
  rw [m37]
  simp only [s37_0, s37_1, kil_nil]
  exact e
theorem byNumbers_ok (hR : RF R) (hW : WV V) (hN : NT I V L) (hL7 : L.length ≤ 7) (hm : ∀ k, k ∈ L → k < vn V) (hZ : Z0 M) : ∃ I' M' k, evm (d + 13) 36 [aR (9, 0, 0)] (I, M, R, G) = some (.inl (some (aI (N k))), (I', M', R, G)) ∧ ILS (gsp V L) L.length k ∧ Z0 M' ∧ FV M M' ∧ ∀ o, o ≠ (33, 0, 0) → I' o = I o := by
  obtain ⟨I1, b, e1, so, f1⟩ := sort_ok (d := d + 7) (M := M) (G := G) hR hN hL7
  have hN1 := hN.f33 f1
  have hl : ∀ (r m : Nat) (Q : OId → Nat → AV), m + r = 31 → (∀ m', m' < m → ¬ FE (gsp V L) m' L.length) → Z0 Q → FV M Q → ∃ M' k, ev (evm (d + 12)) 36 6 [some (aR (9, 0, 0)), some (aI (N m))] [] [] (I1, Q, R, G) = some (.inl (some (aI (N k))), (I1, M', R, G)) ∧ ILS (gsp V L) L.length k ∧ Z0 M' ∧ FV M M' := by
    intro r
    induction r with
    | zero =>
      intro m Q hmr hno hQ hF
      have e31 : m = 31 := by omega
      subst e31
      refine ⟨Q, 31, ?_, ⟨FE31 hW hm hL7, hno⟩, hQ, hF⟩
      have q1 : ((31 : Int32) ≤ N 31) = True := N_ge1 (a := 31) (b := 31) (Nat.le_refl _) (by decide)
      rw [s36_6]
      simp only [m36, s36_0, s36_1, s36_4, s36_5, s36_7, s36_9, s36_12, s36_13, s36_14, s36_15, s36_16, s36_19, s36_22, s36_23, s36_24, s36_27, s36_30, s36_32, q1, if_false, if_true, ck_v, ck_x, Option.toList, List.cons_append, List.nil_append, kil_nil, N_1, o10, o00, exN_0, exN_1, exN_2, exN_3, exN_4, exN_5, Ex]
      rfl
    | succ r ih =>
      intro m Q hmr hno hQ hF
      have q1 : ((31 : Int32) ≤ N m) = False := N_ge (a := m) (b := 31) (by omega) (by decide)
      have hrow : RW Q V L b (fun _ => 0) 0 := fun j hj _ => by
        show Q (34, 0, 0) (0 + j) = aL 0
        rw [Nat.zero_add]
        exact hQ j (by omega)
      obtain ⟨bb', M1, e2, a1, a2, a3⟩ := assign_ok (d := d + 8 - L.length) (G := G) (p := b) (num := m) hR hW hN1 hL7 hm (fun d hd => ⟨(so.1 d hd).2, (so.1 d hd).1⟩) so.2 (by omega) L.length 0 (fun _ => 0) Q (by omega) (fun d hd => by omega) hrow
      rw [show d + 8 - L.length + L.length + 4 = d + 12 by omega] at e2
      have e2' : evm (d + 12) 40 [aR (9, 0, 0), aI 0, aI 0, aI (N m)] (I1, Q, R, G) = some (.inl (some (aI (if bb' = true then 1 else 0))), (I1, M1, R, G)) := e2
      have hfe : bb' = true ↔ FE (gsp V L) m L.length := a1.trans (FE_EX (fun i j hi hj => (gsp_ok hW hm hi hj).2.2) (fun i hi => (so.1 i hi).2) so.2)
      have hZ1 : Z0 M1 := fun x hx => by rw [a3 x (by omega)]; exact hQ x hx
      cases hb : bb' with
      | true =>
        rw [hb, if_pos rfl] at e2'
        refine ⟨M1, m, ?_, ⟨hfe.mp hb, hno⟩, hZ1, hF.tr a2⟩
        rw [s36_6]
        simp only [m36, s36_0, s36_1, s36_4, s36_5, s36_7, s36_9, s36_12, s36_13, s36_14, s36_15, s36_16, s36_19, s36_22, s36_23, s36_24, s36_27, s36_30, s36_32, q1, e2', if_false, if_true, ck_v, ck_x, Option.toList, List.cons_append, List.nil_append, kil_nil, N_1, o10, o00, exN_0, exN_1, exN_2, exN_3, exN_4, exN_5, Ex]
      | false =>
        rw [hb, if_neg (by simp)] at e2'
        obtain ⟨M', k, e3, c1⟩ := ih (m + 1) M1 (by omega) (fun m' hm' => by
          by_cases hmm : m' = m
          · rw [hmm]
            exact fun q => by
              rw [hfe.mpr q] at hb
              cases hb
          · exact hno m' (by omega)) hZ1 (hF.tr a2)
        refine ⟨M', k, ?_, c1⟩
        rw [s36_6]
        simp only [m36, s36_0, s36_1, s36_4, s36_5, s36_7, s36_9, s36_12, s36_13, s36_14, s36_15, s36_16, s36_19, s36_22, s36_23, s36_24, s36_27, s36_30, s36_32, q1, e2', if_false, if_true, ck_v, ck_x, Option.toList, List.cons_append, List.nil_append, kil_nil, N_1, o10, o00, exN_0, exN_1, exN_2, exN_3, exN_4, exN_5, Ex]
        exact e3
  obtain ⟨M', k, e2, c1, c2, c3⟩ := hl 31 0 M (by decide) (fun m' h => by omega) hZ FV.rf
  refine ⟨I1, M', k, ?_, c1, c2, c3, f1⟩
  rw [m36]
  simp only [s36_0, s36_1, s36_4, s36_5, e1, if_false, if_true, ck_v, ck_x, Option.toList, List.cons_append, List.nil_append, kil_nil, N_1, o10, o00, exN_0, exN_1, exN_2, exN_3, exN_4, exN_5, Ex]
  exact e2
end SPANC
