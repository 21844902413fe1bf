/-! THE METHODS' MEANING: the model's best plan -/
def planF (q : Qy) (V : Vw) : Option Pln := gs (fun l => dfs q l V) 3 0
def FPF (I I' : OId → Nat → Int32) : Prop := (∀ o, o ≠ (35, 0, 0) → o ≠ (38, 0, 0) → o ≠ (39, 0, 0) → o ≠ (40, 0, 0) → o ≠ (12, 0, 0) → I' o = I o) ∧ (∀ f, f < 9 ∨ 14 < f → I' (12, 0, 0) f = I (12, 0, 0) f) ∧ ∀ f, f < 106 → I' (35, 0, 0) f = I (35, 0, 0) f
def GdM (V : Vw) (r : Pln) (I' : OId → Nat → Int32) : Prop := I' (12, 0, 0) 14 = N r.2 ∧ ∀ i k e, r.1[i]? = some (k, e) → k < vn V ∧ I' (39, 0, 0) i = N k ∧ I' (40, 0, 0) i = N e
section PLANFOR
variable {d : Nat} {I I' I'' : OId → Nat → Int32} {M R : OId → Nat → AV} {G : SG} {V : Vw} {q : Qy} {B : Bk} {hs : List Bk} {sn : Option Bk}
theorem FPF.tr (h : FPF I I') (h' : FPF I' I'') : FPF I I'' := ⟨fun o a b c e f => (h'.1 o a b c e f).trans (h.1 o a b c e f), fun f hf => (h'.2.1 f hf).trans (h.2.1 f hf), fun f hf => (h'.2.2 f hf).trans (h.2.2 f hf)⟩
theorem FPF.fm (h : FPF I I') : FM I I' := fun o ho => h.1 o (by rintro rfl; exact ho (Or.inr ⟨by decide, by decide⟩)) (by rintro rfl; exact ho (Or.inr ⟨by decide, by decide⟩)) (by rintro rfl; exact ho (Or.inr ⟨by decide, by decide⟩)) (by rintro rfl; exact ho (Or.inr ⟨by decide, by decide⟩)) (by rintro rfl; exact ho (Or.inl rfl))
theorem MR.pf (h : MR I B hs sn) (f : FPF I I') : MR I' B hs sn := by
  obtain ⟨h1, h2, h3, h4, h5, h6⟩ := h
  refine ⟨h1.fr f.2.2, h2, ?_, ?_, ?_, ?_⟩
  · rw [f.2.1 8 (by omega)]; exact h3
  · rw [f.1 (37, 0, 0) (by simp) (by simp) (by simp) (by simp) (by simp)]; exact h4
  · rw [f.2.1 15 (by omega)]; exact h5
  · rw [f.1 (36, 0, 0) (by simp) (by simp) (by simp) (by simp) (by simp)]; exact h6
theorem MV.fr' (h : MV I V) (e : ∀ x, x < 106 → I' (35, 0, 0) x = I (35, 0, 0) x) : MV I' V := by
  obtain ⟨⟨r0, r1, r2⟩, r7, h7, hf, hl, hc⟩ := h
  refine ⟨⟨?_, ?_, ?_⟩, ?_, h7, ?_, ?_, ?_⟩
  · rw [e 0 (by decide)]; exact r0
  · rw [e 1 (by decide)]; exact r1
  · rw [e 2 (by decide)]; exact r2
  · rw [e 7 (by decide)]; exact r7
  · intro k hk f hf'
    rw [e _ (by omega)]; exact hf k hk f hf'
  · intro k hk
    rw [e _ (by omega)]; exact hl k hk
  · intro a b ha hb
    rw [e _ (by omega)]; exact hc a b ha hb
theorem plans_at (hR : RF R) (hV : MV I V) (hQ : MQy I q) (hB : QB V q) : ∀ l, l < 3 → match dfs q l V with
    | none => ∃ I', evm (d + 9) 227 [aR (12, 0, 0), aI 0, aI (N l)] (I, M, R, G) = some (.inl (some (aI 0)), (I', M, R, G)) ∧ I' (35, 0, 0) = I (35, 0, 0) ∧ FPl 0 I I'
    | some r => ∃ I', evm (d + 9) 227 [aR (12, 0, 0), aI 0, aI (N l)] (I, M, R, G) = some (.inl (some (aI 1)), (I', M, R, G)) ∧ GdP 0 V r I I'
  | 0, _ => plans_ok (d := d + 2) hR 0 0 V I hV hQ hB (by decide)
  | 1, _ => plans_ok (d := d + 1) hR 1 0 V I hV hQ hB (by decide)
  | 2, _ => plans_ok (d := d) hR 2 0 V I hV hQ hB (by decide)
  | n + 3, h => by omega
theorem planFor_ok {x y : Int32} {s w t : Option Nat} (hR : RF R) (hV : MV I V) (hB : QB V ((x, y), s, w, t)) : match planF ((x, y), s, w, t) V with
    | none => ∃ I', evm (d + 10) 226 [aR (12, 0, 0), aI x, aI y, aI (och s), aI (och w), aI (och t)] (I, M, R, G) = some (.inl (some (aI (-1))), (I', M, R, G)) ∧ FPF I I'
    | some r => ∃ I', evm (d + 10) 226 [aR (12, 0, 0), aI x, aI y, aI (och s), aI (och w), aI (och t)] (I, M, R, G) = some (.inl (some (aI (N r.1.length))), (I', M, R, G)) ∧ FPF I I' ∧ GdM V r I' := by
  have h7 := hV.2.2.1
  have hl : ∀ (r l : Nat) (I : OId → Nat → Int32) (l7 : Option AV), l + r = 3 → MV I V → MQy I ((x, y), s, w, t) → match gs (fun l => dfs ((x, y), s, w, t) l V) r l with
      | none => ∃ I', ev (evm (d + 9)) 226 30 [some (aR (12, 0, 0)), some (aI x), some (aI y), some (aI (och s)), some (aI (och w)), some (aI (och t)), some (aI (N l)), l7] [] [] (I, M, R, G) = some (.inl (some (aI (-1))), (I', M, R, G)) ∧ FPF I I'
      | some r => ∃ I', ev (evm (d + 9)) 226 30 [some (aR (12, 0, 0)), some (aI x), some (aI y), some (aI (och s)), some (aI (och w)), some (aI (och t)), some (aI (N l)), l7] [] [] (I, M, R, G) = some (.inl (some (aI (N r.1.length))), (I', M, R, G)) ∧ FPF I I' ∧ GdM V r I' := by
    intro r
    induction r with
    | zero =>
      intro l I l7 hlr hV hQ
      have e3 : l = 3 := by omega
      subst e3
      refine ⟨I, ?_, fun _ _ _ _ _ _ => rfl, fun _ _ => rfl, fun _ _ => rfl⟩
      have e3 : ((3 : Int32) ≤ N 3) = True := N_ge1 (a := 3) (b := 3) (Nat.le_refl _) (by decide)
      rw [s226_30]
      simp only [m226, s226_0, s226_1, s226_2, s226_5, s226_6, s226_7, s226_10, s226_11, s226_12, s226_15, s226_16, s226_18, s226_21, s226_22, s226_24, s226_27, s226_28, s226_32, s226_33, s226_36, s226_37, s226_38, s226_41, s226_42, s226_43, s226_46, s226_47, s226_50, s226_51, s226_52, s226_54, s226_57, s226_59, s226_60, s226_61, s226_64, s226_65, s226_66, s226_69, s226_70, s226_73, s226_75, s226_78, s226_80, s226_81, s226_84, s226_87, s226_88, e3, if_false, if_true, ck_v, ck_x, Option.toList, List.cons_append, List.nil_append, kil_nil, N_1, o10, o00, exN_0, exN_1, exN_2, exN_3, exN_4, exN_5, Ex]
    | succ r ih =>
      intro l I l7 hlr hV hQ
      have e3 : ((3 : Int32) ≤ N l) = False := N_ge (a := l) (b := 3) (by omega) (by decide)
      obtain ⟨J, hJ⟩ : ∃ J, J = cpy I (38, 0, 0) (35, 0, 0) 0 0 := ⟨_, rfl⟩
      have hJ35 : J (35, 0, 0) = I (35, 0, 0) := by rw [hJ, cpy_ne (by simp)]
      have hJ38 : ∀ f, f < 106 → J (38, 0, 0) f = I (35, 0, 0) f := fun f hf => by rw [hJ, cpy_0 hf, Nat.zero_add]
      have hJo : ∀ o, o ≠ (38, 0, 0) → J o = I o := fun o ho => by rw [hJ, cpy_ne ho]
      have hQJ : MQy J ((x, y), s, w, t) := by
        unfold MQy
        rw [hJo (12, 0, 0) (by simp)]
        exact hQ
      have hp := plans_at (d := d) (M := M) (G := G) hR (hV.fr hJ35) hQJ hB l (by omega)
      unfold gs
      have hback : ∀ I2, FPl 0 J I2 → FPF I (cpy I2 (35, 0, 0) (38, 0, 0) 0 0) ∧ (∀ f, f < 106 → cpy I2 (35, 0, 0) (38, 0, 0) 0 0 (35, 0, 0) f = I (35, 0, 0) f) := fun I2 hF => by
        have e35 : ∀ f, f < 106 → cpy I2 (35, 0, 0) (38, 0, 0) 0 0 (35, 0, 0) f = I (35, 0, 0) f := fun f hf => by
          rw [cpy_0 hf, Nat.zero_add, hF.1 (38, 0, 0) (by simp) (by simp) (by simp) (by simp), hJ38 f hf]
        refine ⟨⟨fun o a b c e f => ?_, fun f hf => ?_, e35⟩, e35⟩
        · rw [cpy_ne a, hF.1 o a c e f, hJo o b]
        · rw [cpy_ne (by simp), hF.2.1 f (by omega), hJo (12, 0, 0) (by simp)]
      cases hd : dfs ((x, y), s, w, t) l V with
      | some r' =>
        rw [hd] at hp
        obtain ⟨I2, e1, a1, a2, a3⟩ := hp
        obtain ⟨b1, b2⟩ := hback I2 a3
        have hlen := (dfs_val hd).1
        refine ⟨_, ?_, b1, ?_, ?_⟩
        · rw [s226_30]
          simp only [m226, s226_0, s226_1, s226_2, s226_5, s226_6, s226_7, s226_10, s226_11, s226_12, s226_15, s226_16, s226_18, s226_21, s226_22, s226_24, s226_27, s226_28, s226_32, s226_33, s226_36, s226_37, s226_38, s226_41, s226_42, s226_43, s226_46, s226_47, s226_50, s226_51, s226_52, s226_54, s226_57, s226_59, s226_60, s226_61, s226_64, s226_65, s226_66, s226_69, s226_70, s226_73, s226_75, s226_78, s226_80, s226_81, s226_84, s226_87, s226_88, e3, hR.m.1, hR.m.2.2.2.1, copies_np, if_false, if_true, ck_v, ck_x, Option.toList, List.cons_append, List.nil_append, kil_nil, N_1, o10, o00, exN_0, exN_1, exN_2, exN_3, exN_4, exN_5, Ex]
          rw [← hJ]
          simp only [e1, m226, s226_0, s226_1, s226_2, s226_5, s226_6, s226_7, s226_10, s226_11, s226_12, s226_15, s226_16, s226_18, s226_21, s226_22, s226_24, s226_27, s226_28, s226_32, s226_33, s226_36, s226_37, s226_38, s226_41, s226_42, s226_43, s226_46, s226_47, s226_50, s226_51, s226_52, s226_54, s226_57, s226_59, s226_60, s226_61, s226_64, s226_65, s226_66, s226_69, s226_70, s226_73, s226_75, s226_78, s226_80, s226_81, s226_84, s226_87, s226_88, hR.m.1, hR.m.2.2.2.1, copies_pn, if_false, if_true, ck_v, ck_x, Option.toList, List.cons_append, List.nil_append, kil_nil, N_1, o10, o00, exN_0, exN_1, exN_2, exN_3, exN_4, exN_5, Ex]
          rw [hlen]
        · rw [cpy_ne (by simp)]; exact a1
        · intro i k e he
          obtain ⟨c1, c2, c3⟩ := a2 i k e he
          rw [Nat.zero_add] at c2 c3
          rw [cpy_ne (by simp), cpy_ne (by simp)]
          exact ⟨c1, c2, c3⟩
      | none =>
        rw [hd] at hp
        obtain ⟨I2, e1, a1, a2⟩ := hp
        obtain ⟨b1, b2⟩ := hback I2 a2
        have hQ2 : MQy (cpy I2 (35, 0, 0) (38, 0, 0) 0 0) ((x, y), s, w, t) := by
          have := hQJ.fr a2
          unfold MQy
          rw [cpy_ne (by simp)]
          exact this
        have hn := ih (l + 1) (cpy I2 (35, 0, 0) (38, 0, 0) 0 0) (some (aI 0)) (by omega) (hV.fr' b2) hQ2
        have hrun : ev (evm (d + 9)) 226 30 [some (aR (12, 0, 0)), some (aI x), some (aI y), some (aI (och s)), some (aI (och w)), some (aI (och t)), some (aI (N l)), l7] [] [] (I, M, R, G) = ev (evm (d + 9)) 226 30 [some (aR (12, 0, 0)), some (aI x), some (aI y), some (aI (och s)), some (aI (och w)), some (aI (och t)), some (aI (N (l + 1))), some (aI 0)] [] [] (cpy I2 (35, 0, 0) (38, 0, 0) 0 0, M, R, G) := by
          rw [s226_30]
          simp only [m226, s226_0, s226_1, s226_2, s226_5, s226_6, s226_7, s226_10, s226_11, s226_12, s226_15, s226_16, s226_18, s226_21, s226_22, s226_24, s226_27, s226_28, s226_32, s226_33, s226_36, s226_37, s226_38, s226_41, s226_42, s226_43, s226_46, s226_47, s226_50, s226_51, s226_52, s226_54, s226_57, s226_59, s226_60, s226_61, s226_64, s226_65, s226_66, s226_69, s226_70, s226_73, s226_75, s226_78, s226_80, s226_81, s226_84, s226_87, s226_88, e3, hR.m.1, hR.m.2.2.2.1, copies_np, if_false, if_true, ck_v, ck_x, Option.toList, List.cons_append, List.nil_append, kil_nil, N_1, o10, o00, exN_0, exN_1, exN_2, exN_3, exN_4, exN_5, Ex]
          rw [← hJ]
          simp only [e1, m226, s226_0, s226_1, s226_2, s226_5, s226_6, s226_7, s226_10, s226_11, s226_12, s226_15, s226_16, s226_18, s226_21, s226_22, s226_24, s226_27, s226_28, s226_32, s226_33, s226_36, s226_37, s226_38, s226_41, s226_42, s226_43, s226_46, s226_47, s226_50, s226_51, s226_52, s226_54, s226_57, s226_59, s226_60, s226_61, s226_64, s226_65, s226_66, s226_69, s226_70, s226_73, s226_75, s226_78, s226_80, s226_81, s226_84, s226_87, s226_88, hR.m.1, hR.m.2.2.2.1, copies_pn, if_false, if_true, ck_v, ck_x, Option.toList, List.cons_append, List.nil_append, kil_nil, N_1, o10, o00, exN_0, exN_1, exN_2, exN_3, exN_4, exN_5, Ex]
        rw [hrun]
        cases hg : gs (fun l => dfs ((x, y), s, w, t) l V) r (l + 1) with
        | some r' =>
          rw [hg] at hn
          obtain ⟨I3, e4, c1, c2⟩ := hn
          exact ⟨I3, e4, b1.tr c1, c2⟩
        | none =>
          rw [hg] at hn
          obtain ⟨I3, e4, c1⟩ := hn
          exact ⟨I3, e4, b1.tr c1⟩
  obtain ⟨J, hJ⟩ : ∃ J, J = setI (setI (setI (setI (setI I (12, 0, 0) 10 x) (12, 0, 0) 11 y) (12, 0, 0) 9 (och s)) (12, 0, 0) 12 (och w)) (12, 0, 0) 13 (och t) := ⟨_, rfl⟩
  have hJo : ∀ o, o ≠ (12, 0, 0) → J o = I o := fun o ho => by rw [hJ, setI_ne ho, setI_ne ho, setI_ne ho, setI_ne ho, setI_ne ho]
  have hJ12 : ∀ f, J (12, 0, 0) f = if f = 13 then och t else if f = 12 then och w else if f = 9 then och s else if f = 11 then y else if f = 10 then x else I (12, 0, 0) f := fun f => by rw [hJ, setI_at, setI_at, setI_at, setI_at, setI_at]
  have hQJ : MQy J ((x, y), s, w, t) := ⟨by rw [hJ12]; rfl, by rw [hJ12]; rfl, by rw [hJ12]; rfl, by rw [hJ12]; rfl, by rw [hJ12]; rfl⟩
  have hFJ : FPF I J := ⟨fun o _ _ _ _ a => hJo o a, fun f hf => by rw [hJ12, if_neg (by omega), if_neg (by omega), if_neg (by omega), if_neg (by omega), if_neg (by omega)], fun f _ => by rw [hJo _ (by simp)]⟩
  have hrun : evm (d + 10) 226 [aR (12, 0, 0), aI x, aI y, aI (och s), aI (och w), aI (och t)] (I, M, R, G) = ev (evm (d + 9)) 226 30 [some (aR (12, 0, 0)), some (aI x), some (aI y), some (aI (och s)), some (aI (och w)), some (aI (och t)), some (aI (N 0)), none] [] [] (J, M, R, G) := by
    rw [m226]
    simp only [s226_0, s226_1, s226_2, s226_5, s226_6, s226_7, s226_10, s226_11, s226_12, s226_15, s226_16, s226_18, s226_21, s226_22, s226_24, s226_27, s226_28, if_false, if_true, ck_v, ck_x, Option.toList, List.cons_append, List.nil_append, kil_nil, N_1, o10, o00, exN_0, exN_1, exN_2, exN_3, exN_4, exN_5, Ex]
    rw [← hJ]
    rfl
  have hT := hl 3 0 J none (by decide) (hV.fr (hJo _ (by simp))) hQJ
  rw [hrun]
  unfold planF
  cases hg : gs (fun l => dfs ((x, y), s, w, t) l V) 3 0 with
  | some r' =>
    rw [hg] at hT
    obtain ⟨I3, e4, c1, c2⟩ := hT
    exact ⟨I3, e4, hFJ.tr c1, c2⟩
  | none =>
    rw [hg] at hT
    obtain ⟨I3, e4, c1⟩ := hT
    exact ⟨I3, e4, hFJ.tr c1⟩
/-- the plan for a station that is there -/
def qsl (V : Vw) (k : Nat) (w t : Option Nat) : Qy := ((vf V k 1, vf V k 2), some k, w, t)
theorem planSlot_ok {k : Nat} {w t : Option Nat} (hR : RF R) (hV : MV I V) (hk : k < vn V) (hB : QB V (qsl V k w t)) : match planF (qsl V k w t) V with
    | none => ∃ I', evm (d + 11) 289 [aR (12, 0, 0), aI (N k), aI (och w), aI (och t)] (I, M, R, G) = some (.inl (some (aI (-1))), (I', M, R, G)) ∧ FPF I I'
    | some r => ∃ I', evm (d + 11) 289 [aR (12, 0, 0), aI (N k), aI (och w), aI (och t)] (I, M, R, G) = some (.inl (some (aI (N r.1.length))), (I', M, R, G)) ∧ FPF I I' ∧ GdM V r I' := by
  have hp := planFor_ok (d := d) (M := M) (G := G) hR hV hB
  have hrun : evm (d + 11) 289 [aR (12, 0, 0), aI (N k), aI (och w), aI (och t)] (I, M, R, G) = ck (evm (d + 10) 226 [aR (12, 0, 0), aI (vf V k 1), aI (vf V k 2), aI (och (some k)), aI (och w), aI (och t)] (I, M, R, G)) (fun v S' => ev (evm (d + 10)) 289 19 [some (aR (12, 0, 0)), some (aI (N k)), some (aI (och w)), some (aI (och t))] [] (v.toList ++ []) S') := by
    simp only [m289, s289_0, s289_1, s289_2, s289_3, s289_4, s289_7, s289_8, s289_9, s289_10, s289_13, s289_14, s289_15, s289_16, fV1 hR hV hk, fV2 hR hV hk, if_false, if_true, ck_v, ck_x, Option.toList, List.cons_append, List.nil_append, kil_nil, N_1, o10, o00, exN_0, exN_1, exN_2, exN_3, exN_4, exN_5, Ex]
    rfl
  rw [hrun]
  unfold qsl
  cases hg : planF ((vf V k 1, vf V k 2), some k, w, t) V with
  | some r' =>
    rw [hg] at hp
    obtain ⟨I3, e4, c1, c2⟩ := hp
    refine ⟨I3, ?_, c1, c2⟩
    rw [e4]
    simp only [m289, s289_0, s289_1, s289_2, s289_3, s289_4, s289_7, s289_8, s289_9, s289_10, s289_13, s289_14, s289_15, s289_16, s289_19, if_false, if_true, ck_v, ck_x, Option.toList, List.cons_append, List.nil_append, kil_nil, N_1, o10, o00, exN_0, exN_1, exN_2, exN_3, exN_4, exN_5, Ex]
  | none =>
    rw [hg] at hp
    obtain ⟨I3, e4, c1⟩ := hp
    refine ⟨I3, ?_, c1⟩
    rw [e4]
    simp only [m289, s289_0, s289_1, s289_2, s289_3, s289_4, s289_7, s289_8, s289_9, s289_10, s289_13, s289_14, s289_15, s289_16, s289_19, if_false, if_true, ck_v, ck_x, Option.toList, List.cons_append, List.nil_append, kil_nil, N_1, o10, o00, exN_0, exN_1, exN_2, exN_3, exN_4, exN_5, Ex]
end PLANFOR
