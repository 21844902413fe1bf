/-! THE METHODS' MEANING: days and trials end -/
def Fr0 (I I' : OId → Nat → Int32) : Prop := ∀ o, ¬ inBk 0 o → I' o = I o
theorem Fr0.rf {I : OId → Nat → Int32} : Fr0 I I := fun _ _ => rfl
theorem Fr0.tr {I I' I'' : OId → Nat → Int32} (h : Fr0 I I') (h' : Fr0 I' I'') : Fr0 I I'' := fun o ho => (h' o ho).trans (h o ho)
theorem Fr0.st {I I' : OId → Nat → Int32} (h : Fr0 I I') {o : OId} {f : Nat} {x : Int32} (ho : inBk 0 o) : Fr0 I (setI I' o f x) := fun q hq => by
  rw [setI_ne (by intro e; subst e; exact hq ho)]
  exact h q hq
theorem Fr0.rv {I : OId → Nat → Int32} {p n : Nat} : Fr0 I (rvI I p n) := fun o ho => rvI_fr (fun e => ho (by rw [e]; exact ⟨rfl, by simp⟩)) (fun e => ho (by rw [e]; exact ⟨rfl, by simp⟩)) (fun e => ho ⟨e.2, by omega⟩)
def expB (B : Bk) : Bk := (B.1, (bday B, bnext B, bexp B + 1, bend B), B.2.2)
def endB (B : Bk) : Bk := (B.1, (bday B, bnext B, bexp B, bend B + 1), B.2.2)
def dayB (B : Bk) : Bk := (B.1, (bday B + 1, bnext B, bexp B, bend B), B.2.2)
/-- the stations below i whose day has come go, the last ones first -/
def ndL : Nat → Bk → Bk
  | 0, B => B
  | i + 1, B => ndL i (if vf B.1 i 4 = bday B then expB (remB B i) else B)
def ndB (B : Bk) : Bk := ndL (vn B.1) (dayB B)
theorem scal_ba {I : OId → Nat → Int32} {B : Bk} {g : Nat} {v : Int32} {q : Int32 × Int32 × Int32 × Int32} (h : BA I 0 B) (hg : g < 7 ∧ 3 ≤ g) (h3 : q.1 = if g = 3 then v else bday B) (h4 : q.2.1 = if g = 4 then v + 1 else bnext B) (h5 : q.2.2.1 = if g = 5 then v else bexp B) (h6 : q.2.2.2 = if g = 6 then v else bend B) : BA (setI I (4, 0, 0) g v) 0 (B.1, q, B.2.2) := by
  obtain ⟨⟨⟨r0, r1, r2⟩, hc, h7, hf, hl, hcm⟩, a3, a4, a5, a6, hm, hp, hz⟩ := h
  have eo : ∀ o : OId, o ≠ (4, 0, 0) → setI I (4, 0, 0) g v o = I o := fun o h1 => setI_ne h1
  have e4 : ∀ f, setI I (4, 0, 0) g v (4, 0, 0) f = if f = g then v else I (4, 0, 0) f := fun f => setI_at
  refine ⟨⟨⟨?_, ?_, ?_⟩, ?_, h7, ?_, ?_, ?_⟩, ?_, ?_, ?_, ?_, ?_, ?_, ?_⟩
  · rw [e4, if_neg (by omega)]; exact r0
  · rw [e4, if_neg (by omega)]; exact r1
  · rw [e4, if_neg (by omega)]; exact r2
  · rw [e4, if_neg (by omega)]; exact hc
  · intro k hk f hf'
    rw [eo (10, 0, k) (by simp)]; exact hf k hk f hf'
  · intro k hk
    rw [eo (10, 0, k) (by simp)]; exact hl k hk
  · rw [eo (21, 0, 0) (by simp)]; exact hcm
  · show _ = q.1
    rw [e4, h3]
    by_cases hq : g = 3
    · rw [if_pos hq.symm, if_pos hq]
    · rw [if_neg (Ne.symm hq), if_neg hq]; exact a3
  · show _ = q.2.1
    rw [e4, h4]
    by_cases hq : g = 4
    · rw [if_pos hq.symm, if_pos hq]
    · rw [if_neg (Ne.symm hq), if_neg hq]; exact a4
  · show _ = q.2.2.1
    rw [e4, h5]
    by_cases hq : g = 5
    · rw [if_pos hq.symm, if_pos hq]
    · rw [if_neg (Ne.symm hq), if_neg hq]; exact a5
  · show _ = q.2.2.2
    rw [e4, h6]
    by_cases hq : g = 6
    · rw [if_pos hq.symm, if_pos hq]
    · rw [if_neg (Ne.symm hq), if_neg hq]; exact a6
  · rw [eo (7, 0, 0) (by simp)]; exact hm
  · rw [eo (22, 0, 0) (by simp), eo (23, 0, 0) (by simp), eo (24, 0, 0) (by simp)]; exact hp
  · rw [eo (21, 0, 0) (by simp)]; exact hz
section DAYS
variable {d : Nat} {I : OId → Nat → Int32} {M R : OId → Nat → AV} {G : SG} {B : Bk}
theorem in4 : inBk 0 (4, 0, 0) := ⟨rfl, by simp⟩
theorem sub_N {a : Nat} (h : 0 < a) (hb : a < 2147483648) : N a - 1 = N (a - 1) := by
  have h9 : N (a - 1) + 1 = N a := by
    rw [N_1]
    exact congrArg N (by omega)
  rw [← h9]
  grind
theorem addm (x : Int32) : x + -1 = x - 1 := by grind
theorem vn_exp : vn (expB B).1 = vn B.1 := rfl
theorem ndLoop (hR : RF R) : ∀ (i : Nat) (I : OId → Nat → Int32) (B : Bk), BA I 0 B → i ≤ vn B.1 → ∃ I', ev (evm (d + 4)) 98 17 [some (aR (4, 0, 0)), some (aI (N i - 1))] [] [] (I, M, R, G) = some (.inl none, (I', M, R, G)) ∧ BA I' 0 (ndL i B) ∧ Fr0 I I'
  | 0, I, B, h, _ => by
    refine ⟨I, ?_, h, Fr0.rf⟩
    have e : N 0 - 1 < 0 := by decide
    rw [s98_17]
    simp only [m98, s98_0, s98_1, s98_2, s98_5, s98_6, s98_7, s98_10, s98_11, s98_14, s98_15, s98_16, s98_18, s98_21, s98_22, s98_23, s98_26, s98_29, s98_30, s98_33, s98_36, s98_37, s98_38, s98_41, s98_42, s98_43, s98_46, s98_47, s98_48, s98_51, s98_54, s98_57, if_pos e]
  | i + 1, I, B, h, hi => by
    have h7 := h.1.2.2.1
    have e0 : N (i + 1) - 1 = N i := sub_N (by omega) (by omega)
    have e2 : N i + -1 = N i - 1 := addm _
    by_cases hx : vf B.1 i 4 = bday B
    · have hb := remove_ba h (show i < vn B.1 by omega)
      have e5 : rvI I i (vn B.1) (4, 0, 0) 5 = bexp B := hb.2.2.2.1
      have hb2 : BA (setI (rvI I i (vn B.1)) (4, 0, 0) 5 (bexp B + 1)) 0 (expB (remB B i)) := scal_ba hb (by decide) rfl rfl rfl rfl
      obtain ⟨I', h1, h2, h3⟩ := ndLoop hR i _ _ hb2 (by show i ≤ vn B.1 - 1; omega)
      refine ⟨I', ?_, ?_, (Fr0.rv.st in4).tr h3⟩
      · rw [s98_17]
        simp only [m98, s98_0, s98_1, s98_2, s98_5, s98_6, s98_7, s98_10, s98_11, s98_14, s98_15, s98_16, s98_18, s98_21, s98_22, s98_23, s98_26, s98_29, s98_30, s98_33, s98_36, s98_37, s98_38, s98_41, s98_42, s98_43, s98_46, s98_47, s98_48, s98_51, s98_54, s98_57, e0, N_neg (show i < 2147483648 by omega), at_N hR (show 0 < 8 by decide) (show i < 7 by omega), h.1.fl (show i < vn B.1 by omega) (show 4 < 5 by decide), h.2.1, if_pos hx, remove_ok hR h (show i < vn B.1 by omega), if_false, if_true, ck_v, ck_x, Option.toList, List.cons_append, List.nil_append, kil_nil, N_1, o10, o00, exN_0, exN_1, exN_2, exN_3, exN_4, exN_5, Ex, e5, e2]
        exact h1
      · unfold ndL
        rw [if_pos hx]
        exact h2
    · obtain ⟨I', h1, h2, h3⟩ := ndLoop hR i I B h (by omega)
      refine ⟨I', ?_, ?_, h3⟩
      · rw [s98_17]
        simp only [m98, s98_0, s98_1, s98_2, s98_5, s98_6, s98_7, s98_10, s98_11, s98_14, s98_15, s98_16, s98_18, s98_21, s98_22, s98_23, s98_26, s98_29, s98_30, s98_33, s98_36, s98_37, s98_38, s98_41, s98_42, s98_43, s98_46, s98_47, s98_48, s98_51, s98_54, s98_57, e0, N_neg (show i < 2147483648 by omega), at_N hR (show 0 < 8 by decide) (show i < 7 by omega), h.1.fl (show i < vn B.1 by omega) (show 4 < 5 by decide), h.2.1, if_neg hx, if_false, if_true, ck_v, ck_x, Option.toList, List.cons_append, List.nil_append, kil_nil, N_1, o10, o00, exN_0, exN_1, exN_2, exN_3, exN_4, exN_5, Ex, e2]
        exact h1
      · unfold ndL
        rw [if_neg hx]
        exact h2
theorem nextDay_ok (hR : RF R) (h : BA I 0 B) : ∃ I', evm (d + 5) 98 [aR (4, 0, 0)] (I, M, R, G) = some (.inl none, (I', M, R, G)) ∧ BA I' 0 (ndB B) ∧ Fr0 I I' := by
  have hb : BA (setI I (4, 0, 0) 3 (bday B + 1)) 0 (dayB B) := scal_ba h (by decide) rfl rfl rfl rfl
  obtain ⟨I', h1, h2, h3⟩ := ndLoop (d := d) (M := M) (G := G) hR (vn B.1) _ _ hb (Nat.le_refl _)
  refine ⟨I', ?_, h2, (Fr0.rf.st in4).tr h3⟩
  have e7 : setI I (4, 0, 0) 3 (bday B + 1) (4, 0, 0) 7 = N (vn B.1) := hb.1.2.1
  rw [m98]
  simp only [s98_0, s98_1, s98_2, s98_5, s98_6, s98_7, s98_10, s98_11, s98_14, s98_15, s98_16, h.2.1, e7, kil_nil]
  exact h1
/-- the trials below i that are in the way of a licensed station end, the last ones first -/
def etL : Nat → Bk → Bk
  | 0, B => B
  | i + 1, B => etL i (if vl B.1 i = false ∧ fs (way B.1 i) (vn B.1) < vn B.1 then endB (remB B i) else B)
end DAYS
