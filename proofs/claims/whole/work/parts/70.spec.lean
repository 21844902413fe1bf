/-! THE METHODS' MEANING: the model looks for a plan -/
/-- what is sought: a point, the served station, the wanted channel, the station that stays -/
abbrev Qy : Type := (Int32 × Int32) × Option Nat × Option Nat × Option Nat
abbrev qx (q : Qy) : Int32 := q.1.1
abbrev qY (q : Qy) : Int32 := q.1.2
abbrev qs (q : Qy) : Option Nat := q.2.1
abbrev qw (q : Qy) : Option Nat := q.2.2.1
abbrev qt (q : Qy) : Option Nat := q.2.2.2
def sepS (V : Vw) (q : Qy) (k : Nat) : Int32 := bsv V k (qx q) (qY q) + (match qs q with | none => 0 | some a => vc V a k)
def blk (V : Vw) (q : Qy) (c k : Nat) : Bool := decide (some k ≠ qs q) && (vl V k && decide (ab (vf V k 3 - N c) < sepS V q k))
def freeS (V : Vw) (q : Qy) (c : Nat) : Bool := decide (¬ fs (blk V q c) (vn V) < vn V)
def bestC (V : Vw) (q : Qy) : Option Nat := bestf (fun c => decide (qw q = none ∨ qw q = some c) && freeS V q c) (fun c => dst V (qx q) (qY q) (N c) (och (qs q))) 8
def canb (V : Vw) (q : Qy) (k c j : Nat) : Bool := decide (j ≠ k) && (decide (some j ≠ qs q) && (vl V j && decide (ab (vf V j 3 - N c) < spm V k j)))
def canM (V : Vw) (q : Qy) (k c : Nat) : Bool := decide (some k ≠ qs q) && (decide (some k ≠ qt q) && (vl V k && (decide (vf V k 3 ≠ N c) && decide (¬ fs (canb V q k c) (vn V) < vn V))))
/-- the first of r from s on that gives something -/
def gs {α : Type} (f : Nat → Option α) : Nat → Nat → Option α
  | 0, _ => none
  | r + 1, s => match f s with
    | some a => some a
    | none => gs f r (s + 1)
abbrev Pln : Type := List (Nat × Nat) × Nat
def dfs (q : Qy) : Nat → Vw → Option Pln
  | 0, V => (bestC V q).map (fun c => ([], c))
  | l + 1, V => gs (fun k => gs (fun c => if canM V q k c = true then (dfs q l (chV V k c)).map (fun r => ((k, c) :: r.1, r.2)) else none) 8 0) (vn V) 0
def val (q : Qy) : Vw → List (Nat × Nat) → Prop
  | _, [] => True
  | V, m :: ms => m.1 < vn V ∧ m.2 < 8 ∧ canM V q m.1 m.2 = true ∧ val q (chV V m.1 m.2) ms
theorem gs_some {α : Type} {f : Nat → Option α} {a : α} : ∀ {r s : Nat}, gs f r s = some a → ∃ k, s ≤ k ∧ k < s + r ∧ f k = some a
  | 0, s, h => by cases h
  | r + 1, s, h => by
    unfold gs at h
    cases hf : f s with
    | some b =>
      rw [hf] at h
      exact ⟨s, Nat.le_refl _, by omega, hf.trans h⟩
    | none =>
      rw [hf] at h
      obtain ⟨k, h1, h2, h3⟩ := gs_some h
      exact ⟨k, by omega, by omega, h3⟩
theorem gs_none {α : Type} {f : Nat → Option α} : ∀ {r s : Nat}, gs f r s = none → ∀ k, s ≤ k → k < s + r → f k = none
  | 0, s, _, k, h1, h2 => by omega
  | r + 1, s, h, k, h1, h2 => by
    unfold gs at h
    cases hf : f s with
    | some b => rw [hf] at h; cases h
    | none =>
      rw [hf] at h
      by_cases hk : k = s
      · rw [hk]; exact hf
      · exact gs_none h k (by omega) (by omega)
theorem gs_congr {α : Type} {f g : Nat → Option α} : ∀ {r s : Nat}, (∀ k, s ≤ k → k < s + r → f k = g k) → gs f r s = gs g r s
  | 0, s, _ => rfl
  | r + 1, s, h => by
    unfold gs
    rw [h s (Nat.le_refl _) (by omega), gs_congr (r := r) (s := s + 1) (fun k h1 h2 => h k (by omega) (by omega))]
theorem dfs_val {q : Qy} : ∀ {l : Nat} {V : Vw} {r : Pln}, dfs q l V = some r → r.1.length = l ∧ bestC (mvV V r.1) q = some r.2 ∧ val q V r.1
  | 0, V, r, h => by
    unfold dfs at h
    cases hb : bestC V q with
    | none => rw [hb] at h; cases h
    | some c =>
      rw [hb] at h
      cases h
      exact ⟨rfl, hb, trivial⟩
  | l + 1, V, r, h => by
    unfold dfs at h
    obtain ⟨k, -, hk, h1⟩ := gs_some h
    obtain ⟨c, -, hc, h2⟩ := gs_some h1
    by_cases hm : canM V q k c = true
    · rw [if_pos hm] at h2
      cases hd : dfs q l (chV V k c) with
      | none => rw [hd] at h2; cases h2
      | some r' =>
        rw [hd] at h2
        cases h2
        obtain ⟨a1, a2, a3⟩ := dfs_val hd
        exact ⟨by rw [List.length_cons, a1], a2, by omega, by omega, hm, a3⟩
    · rw [if_neg hm] at h2
      cases h2
def MQy (I : OId → Nat → Int32) (q : Qy) : Prop := I (12, 0, 0) 10 = qx q ∧ I (12, 0, 0) 11 = qY q ∧ I (12, 0, 0) 9 = och (qs q) ∧ I (12, 0, 0) 12 = och (qw q) ∧ I (12, 0, 0) 13 = och (qt q)
def MQ3 (I : OId → Nat → Int32) (q : Qy) : Prop := I (12, 0, 0) 10 = qx q ∧ I (12, 0, 0) 11 = qY q ∧ I (12, 0, 0) 9 = och (qs q)
theorem MQy.q3 {I : OId → Nat → Int32} {q : Qy} (h : MQy I q) : MQ3 I q := ⟨h.1, h.2.1, h.2.2.1⟩
def QB (V : Vw) (q : Qy) : Prop := (∀ a, qs q = some a → a < vn V) ∧ (∀ c, qw q = some c → c < 8) ∧ ∀ a, qt q = some a → a < vn V
theorem och_eq {o : Option Nat} {k : Nat} (hk : k < 100) (ho : ∀ a, o = some a → a < 100) : (N k = och o) = (some k = o) := by
  cases o with
  | none =>
    refine propext ⟨fun q => ?_, fun q => by cases q⟩
    have := N_neg (a := k) (by omega)
    rw [show N k = -1 from q] at this
    exact absurd this (by decide)
  | some a =>
    show (N k = N a) = _
    have := ho a rfl
    rw [N_inj (by omega) (by omega)]
    exact propext ⟨fun q => by rw [q], fun q => by cases q; rfl⟩
theorem och_n {o : Option Nat} (ho : ∀ a, o = some a → a < 100) : (och o < 0) = (o = none) := by
  cases o with
  | none => exact propext ⟨fun _ => rfl, fun _ => by decide⟩
  | some a =>
    show (N a < 0) = _
    have := ho a rfl
    rw [N_neg (by omega)]
    exact propext ⟨fun q => q.elim, fun q => by cases q⟩
section MSEARCH
variable {d : Nat} {I I' : OId → Nat → Int32} {M R : OId → Nat → AV} {G : SG} {V : Vw} {q : Qy}
theorem QB.s (h : QB V q) (h7 : vn V ≤ 7) : ∀ a, qs q = some a → a < 100 := fun a ha => by have := h.1 a ha; omega
theorem QB.w (h : QB V q) : ∀ a, qw q = some a → a < 100 := fun a ha => by have := h.2.1 a ha; omega
theorem QB.t (h : QB V q) (h7 : vn V ≤ 7) : ∀ a, qt q = some a → a < 100 := fun a ha => by have := h.2.2 a ha; omega
theorem sepServed_ok {k : Nat} (hR : RF R) (hV : MV I V) (hQ : MQ3 I q) (hB : QB V q) (hk : k < vn V) : evm (d + 4) 233 [aR (12, 0, 0), aI (N k)] (I, M, R, G) = some (.inl (some (aI (sepS V q k))), (I, M, R, G)) := by
  obtain ⟨q1, q2, q3⟩ := hQ
  have h7 := hV.2.2.1
  unfold sepS
  cases hs : qs q with
  | none =>
    rw [hs] at q3
    simp only [m233, s233_0, s233_1, s233_2, s233_5, s233_6, s233_9, s233_10, s233_13, s233_14, s233_17, s233_20, s233_21, s233_24, s233_25, s233_26, s233_29, s233_30, s233_33, s233_34, q1, q2, q3, och, baseTo_ok hR hV hk, ite_le, m1n, if_false, if_true, ck_v, ck_x, Option.toList, List.cons_append, List.nil_append, kil_nil, N_1, o10, o00, exN_0, exN_1, exN_2, exN_3, exN_4, exN_5, Ex]
  | some a =>
    rw [hs] at q3
    have ha := hB.1 a hs
    simp only [m233, s233_0, s233_1, s233_2, s233_5, s233_6, s233_9, s233_10, s233_13, s233_14, s233_17, s233_20, s233_21, s233_24, s233_25, s233_26, s233_29, s233_30, s233_33, s233_34, q1, q2, q3, och, baseTo_ok hR hV hk, ite_le, N_neg (show a < 2147483648 by omega), complaints_ok hR hV ha hk, if_false, if_true, ck_v, ck_x, Option.toList, List.cons_append, List.nil_append, kil_nil, N_1, o10, o00, exN_0, exN_1, exN_2, exN_3, exN_4, exN_5, Ex]
theorem isServedFree_ok {c : Nat} (hR : RF R) (hV : MV I V) (hQ : MQ3 I q) (hB : QB V q) (hc : c < 8) : evm (d + 5) 229 [aR (12, 0, 0), aI (N c)] (I, M, R, G) = some (.inl (some (aI (if freeS V q c = true then 1 else 0))), (I, M, R, G)) := by
  have h7 := hV.2.2.1
  rw [m229]
  have hs : ∀ k, k < vn V → ev (evm (d + 4)) 229 2 [some (aR (12, 0, 0)), some (aI (N c)), some (aI (N k))] [] [] (I, M, R, G) = if blk V q c k = true then some (.inl (some (aI 0)), (I, M, R, G)) else ev (evm (d + 4)) 229 2 [some (aR (12, 0, 0)), some (aI (N c)), some (aI (N (k + 1)))] [] [] (I, M, R, G) := by
    intro k hk
    have es : (N k = och (qs q)) = (some k = qs q) := och_eq (by omega) (hB.s h7)
    rw [s229_2]
    by_cases h1 : some k = qs q
    · have ep : (N k = och (qs q)) = True := by rw [es]; exact eq_true h1
      have ew : blk V q c k = false := by unfold blk; simp [h1]
      rw [ew]
      simp only [m229, s229_0, s229_1, s229_3, s229_4, s229_7, s229_9, s229_10, s229_13, s229_14, s229_15, s229_18, s229_21, s229_22, s229_23, s229_26, s229_29, s229_30, s229_31, s229_32, s229_35, s229_36, s229_37, s229_40, s229_41, s229_42, s229_45, s229_48, s229_49, s229_50, s229_53, s229_56, s229_57, hR.m.1, kn7, cl7, ag35, hV.2.1, N_ge hk (show vn V < 2147483648 by omega), hQ.2.2, ep, if_false, if_true, ck_v, ck_x, Option.toList, List.cons_append, List.nil_append, kil_nil, N_1, o10, o00, exN_0, exN_1, exN_2, exN_3, exN_4, exN_5, Ex, Bool.false_eq_true]
    · have ep : (N k = och (qs q)) = False := by rw [es]; exact eq_false h1
      by_cases h2 : vl V k = true
      · have hl : licv V k = 1 := if_pos h2
        by_cases h3 : ab (vf V k 3 - N c) < sepS V q k
        · have ew : blk V q c k = true := by unfold blk; simp [h1, h2, h3]
          rw [ew]
          simp only [m229, s229_0, s229_1, s229_3, s229_4, s229_7, s229_9, s229_10, s229_13, s229_14, s229_15, s229_18, s229_21, s229_22, s229_23, s229_26, s229_29, s229_30, s229_31, s229_32, s229_35, s229_36, s229_37, s229_40, s229_41, s229_42, s229_45, s229_48, s229_49, s229_50, s229_53, s229_56, s229_57, hR.m.1, kn7, cl7, ag35, hV.2.1, N_ge hk (show vn V < 2147483648 by omega), hQ.2.2, ep, hl, isLicensed_ok hR hV hk, fV3 hR hV hk, size_ok, sepServed_ok hR hV hQ hB hk, ite_le, h3, if_false, if_true, ck_v, ck_x, Option.toList, List.cons_append, List.nil_append, kil_nil, N_1, o10, o00, exN_0, exN_1, exN_2, exN_3, exN_4, exN_5, Ex, or_true, true_or]
        · have ew : blk V q c k = false := by unfold blk; simp [h3]
          rw [ew]
          simp only [m229, s229_0, s229_1, s229_3, s229_4, s229_7, s229_9, s229_10, s229_13, s229_14, s229_15, s229_18, s229_21, s229_22, s229_23, s229_26, s229_29, s229_30, s229_31, s229_32, s229_35, s229_36, s229_37, s229_40, s229_41, s229_42, s229_45, s229_48, s229_49, s229_50, s229_53, s229_56, s229_57, hR.m.1, kn7, cl7, ag35, hV.2.1, N_ge hk (show vn V < 2147483648 by omega), hQ.2.2, ep, hl, isLicensed_ok hR hV hk, fV3 hR hV hk, size_ok, sepServed_ok hR hV hQ hB hk, ite_le, h3, if_false, if_true, ck_v, ck_x, Option.toList, List.cons_append, List.nil_append, kil_nil, N_1, o10, o00, exN_0, exN_1, exN_2, exN_3, exN_4, exN_5, Ex, Bool.false_eq_true]
      · have hl : licv V k = 0 := if_neg h2
        have ew : blk V q c k = false := by unfold blk; simp [h2]
        rw [ew]
        simp only [m229, s229_0, s229_1, s229_3, s229_4, s229_7, s229_9, s229_10, s229_13, s229_14, s229_15, s229_18, s229_21, s229_22, s229_23, s229_26, s229_29, s229_30, s229_31, s229_32, s229_35, s229_36, s229_37, s229_40, s229_41, s229_42, s229_45, s229_48, s229_49, s229_50, s229_53, s229_56, s229_57, hR.m.1, kn7, cl7, ag35, hV.2.1, N_ge hk (show vn V < 2147483648 by omega), hQ.2.2, ep, hl, isLicensed_ok hR hV hk, if_false, if_true, ck_v, ck_x, Option.toList, List.cons_append, List.nil_append, kil_nil, N_1, o10, o00, exN_0, exN_1, exN_2, exN_3, exN_4, exN_5, Ex, Bool.false_eq_true]
  have h0 := iter_fs (f := fun k => ev (evm (d + 4)) 229 2 [some (aR (12, 0, 0)), some (aI (N c)), some (aI (N k))] [] [] (I, M, R, G)) hs
  have hf : ev (evm (d + 4)) 229 2 [some (aR (12, 0, 0)), some (aI (N c)), some (aI (N (vn V)))] [] [] (I, M, R, G) = some (.inl (some (aI 1)), (I, M, R, G)) := by
    rw [s229_2]
    simp only [m229, s229_0, s229_1, s229_3, s229_4, s229_7, s229_9, s229_10, s229_13, s229_14, s229_15, s229_18, s229_21, s229_22, s229_23, s229_26, s229_29, s229_30, s229_31, s229_32, s229_35, s229_36, s229_37, s229_40, s229_41, s229_42, s229_45, s229_48, s229_49, s229_50, s229_53, s229_56, s229_57, hR.m.1, kn7, cl7, ag35, hV.2.1, N_ge1 (Nat.le_refl (vn V)) (show vn V < 2147483648 by omega), if_false, if_true, ck_v, ck_x, Option.toList, List.cons_append, List.nil_append, kil_nil, N_1, o10, o00, exN_0, exN_1, exN_2, exN_3, exN_4, exN_5, Ex, or_true]
  simp only [s229_0, s229_1, kil_nil]
  refine h0.trans ?_
  rw [hf]
  unfold freeS
  by_cases hq : fs (blk V q c) (vn V) < vn V
  · rw [if_pos hq, if_neg (by simp [hq])]
  · rw [if_neg hq, if_pos (by simp [hq])]
theorem bestChannel_ok (hR : RF R) (hV : MV I V) (hQ : MQy I q) (hB : QB V q) : evm (d + 6) 228 [aR (12, 0, 0)] (I, M, R, G) = some (.inl (some (aI (och (bestC V q)))), (I, M, R, G)) := by
  have h7 := hV.2.2.1
  obtain ⟨q1, q2, q3, q4, q5⟩ := hQ
  have hQ : MQy I q := ⟨q1, q2, q3, q4, q5⟩
  obtain ⟨ok, hok⟩ : ∃ ok, ok = fun c => decide (qw q = none ∨ qw q = some c) && freeS V q c := ⟨_, rfl⟩
  obtain ⟨co, hco⟩ : ∃ co, co = fun c => dst V (qx q) (qY q) (N c) (och (qs q)) := ⟨_, rfl⟩
  have hok' : ∀ c, ok c = (decide (qw q = none ∨ qw q = some c) && freeS V q c) := fun c => by rw [hok]
  have hco' : ∀ c, dst V (qx q) (qY q) (N c) (och (qs q)) = co c := fun c => by rw [hco]
  have hs : ∀ k, k < 8 → ev (evm (d + 5)) 228 4 [some (aR (12, 0, 0)), some (aI (och (bestf ok co k))), some (aI (N k))] [] [] (I, M, R, G) = ev (evm (d + 5)) 228 4 [some (aR (12, 0, 0)), some (aI (och (bestf ok co (k + 1)))), some (aI (N (k + 1)))] [] [] (I, M, R, G) := by
    intro k hk
    have e8 : ((8 : Int32) ≤ N k) = False := N_ge (a := k) (b := 8) hk (by decide)
    have en : (och (qw q) < 0) = (qw q = none) := och_n hB.w
    have ee : (N k = och (qw q)) = (some k = qw q) := och_eq (by omega) hB.w
    have hskip : ok k = false → bestf ok co (k + 1) = bestf ok co k := fun h => by
      rw [bestf]
      simp [h]
    by_cases hw : qw q = none ∨ qw q = some k
    · have hf := isServedFree_ok (d := d) (M := M) (G := G) hR hV hQ.q3 hB hk
      cases hfr : freeS V q k with
      | false =>
        rw [hfr] at hf
        rw [hskip (by rw [hok', hfr, Bool.and_false])]
        rw [s228_4]
        rcases hw with hw | hw
        · have en' : (och (qw q) < 0) = True := by rw [en]; exact eq_true hw
          simp only [m228, s228_0, s228_1, s228_2, s228_3, s228_5, s228_7, s228_10, s228_11, s228_14, s228_17, s228_18, s228_19, s228_22, s228_25, s228_26, s228_27, s228_30, s228_33, s228_36, s228_37, s228_40, s228_41, s228_42, s228_45, s228_46, s228_49, s228_50, s228_51, s228_54, s228_57, s228_58, s228_59, s228_62, s228_63, s228_66, s228_67, s228_68, s228_71, s228_74, s228_77, s228_78, s228_79, s228_82, s228_85, s228_86, e8, q4, en', hf, if_false, if_true, ck_v, ck_x, Option.toList, List.cons_append, List.nil_append, kil_nil, N_1, o10, o00, exN_0, exN_1, exN_2, exN_3, exN_4, exN_5, Ex, Bool.false_eq_true]
        · have en' : (och (qw q) < 0) = False := by rw [en, hw]; exact eq_false (fun q => by cases q)
          have ee' : (N k = och (qw q)) = True := by rw [ee, hw]; exact eq_true rfl
          simp only [m228, s228_0, s228_1, s228_2, s228_3, s228_5, s228_7, s228_10, s228_11, s228_14, s228_17, s228_18, s228_19, s228_22, s228_25, s228_26, s228_27, s228_30, s228_33, s228_36, s228_37, s228_40, s228_41, s228_42, s228_45, s228_46, s228_49, s228_50, s228_51, s228_54, s228_57, s228_58, s228_59, s228_62, s228_63, s228_66, s228_67, s228_68, s228_71, s228_74, s228_77, s228_78, s228_79, s228_82, s228_85, s228_86, e8, q4, en', ee', hf, if_false, if_true, ck_v, ck_x, Option.toList, List.cons_append, List.nil_append, kil_nil, N_1, o10, o00, exN_0, exN_1, exN_2, exN_3, exN_4, exN_5, Ex, Bool.false_eq_true]
      | true =>
        rw [hfr, if_pos rfl] at hf
        have hokk : ok k = true := by rw [hok', hfr]; simp [hw]
        have hto : ∀ x y z, ev (evm (d + 5)) 228 25 [some (aR (12, 0, 0)), x, y] [] [] z = ev (evm (d + 5)) 228 25 [some (aR (12, 0, 0)), x, y] [] [] z := fun _ _ _ => rfl
        have h25 : ev (evm (d + 5)) 228 4 [some (aR (12, 0, 0)), some (aI (och (bestf ok co k))), some (aI (N k))] [] [] (I, M, R, G) = ev (evm (d + 5)) 228 25 [some (aR (12, 0, 0)), some (aI (och (bestf ok co k))), some (aI (N k))] [] [] (I, M, R, G) := by
          rw [s228_4]
          rcases hw with hw | hw
          · have en' : (och (qw q) < 0) = True := by rw [en]; exact eq_true hw
            simp only [m228, s228_0, s228_1, s228_2, s228_3, s228_5, s228_7, s228_10, s228_11, s228_14, s228_17, s228_18, s228_19, s228_22, s228_26, s228_27, s228_30, s228_33, s228_36, s228_37, s228_40, s228_41, s228_42, s228_45, s228_46, s228_49, s228_50, s228_51, s228_54, s228_57, s228_58, s228_59, s228_62, s228_63, s228_66, s228_67, s228_68, s228_71, s228_74, s228_77, s228_78, s228_79, s228_82, s228_85, s228_86, e8, q4, en', if_false, if_true, ck_v, ck_x, Option.toList, List.cons_append, List.nil_append, kil_nil, N_1, o10, o00, exN_0, exN_1, exN_2, exN_3, exN_4, exN_5, Ex]
          · have en' : (och (qw q) < 0) = False := by rw [en, hw]; exact eq_false (fun q => by cases q)
            have ee' : (N k = och (qw q)) = True := by rw [ee, hw]; exact eq_true rfl
            simp only [m228, s228_0, s228_1, s228_2, s228_3, s228_5, s228_7, s228_10, s228_11, s228_14, s228_17, s228_18, s228_19, s228_22, s228_26, s228_27, s228_30, s228_33, s228_36, s228_37, s228_40, s228_41, s228_42, s228_45, s228_46, s228_49, s228_50, s228_51, s228_54, s228_57, s228_58, s228_59, s228_62, s228_63, s228_66, s228_67, s228_68, s228_71, s228_74, s228_77, s228_78, s228_79, s228_82, s228_85, s228_86, e8, q4, en', ee', if_false, if_true, ck_v, ck_x, Option.toList, List.cons_append, List.nil_append, kil_nil, N_1, o10, o00, exN_0, exN_1, exN_2, exN_3, exN_4, exN_5, Ex]
        rw [h25]
        cases hb : bestf ok co k with
        | none =>
          have e : bestf ok co (k + 1) = some k := by
            unfold bestf
            rw [hb]
            simp [hokk]
          rw [e]
          show ev _ 228 25 [_, some (aI (-1)), _] [] _ _ = _
          simp only [m228, s228_0, s228_1, s228_2, s228_3, s228_5, s228_7, s228_10, s228_11, s228_14, s228_17, s228_18, s228_19, s228_22, s228_25, s228_26, s228_27, s228_30, s228_33, s228_36, s228_37, s228_40, s228_41, s228_42, s228_45, s228_46, s228_49, s228_50, s228_51, s228_54, s228_57, s228_58, s228_59, s228_62, s228_63, s228_66, s228_67, s228_68, s228_71, s228_74, s228_77, s228_78, s228_79, s228_82, s228_85, s228_86, hf, m1n, if_false, if_true, ck_v, ck_x, Option.toList, List.cons_append, List.nil_append, kil_nil, N_1, o10, o00, exN_0, exN_1, exN_2, exN_3, exN_4, exN_5, Ex]
          rfl
        | some b =>
          have hb8 : b < k := (bestf_lt hb).1
          have e : bestf ok co (k + 1) = if co k < co b then some k else some b := by
            unfold bestf
            rw [hb]
            by_cases h2 : co k < co b <;> simp [hokk, h2]
          rw [e]
          show ev _ 228 25 [_, some (aI (N b)), _] [] _ _ = _
          by_cases h2 : co k < co b
          · rw [if_pos h2]
            simp only [m228, s228_0, s228_1, s228_2, s228_3, s228_5, s228_7, s228_10, s228_11, s228_14, s228_17, s228_18, s228_19, s228_22, s228_25, s228_26, s228_27, s228_30, s228_33, s228_36, s228_37, s228_40, s228_41, s228_42, s228_45, s228_46, s228_49, s228_50, s228_51, s228_54, s228_57, s228_58, s228_59, s228_62, s228_63, s228_66, s228_67, s228_68, s228_71, s228_74, s228_77, s228_78, s228_79, s228_82, s228_85, s228_86, hf, N_neg (show b < 2147483648 by omega), q1, q2, q3, disturbanceM_ok hR hV, hco', ite_le, if_pos h2, if_false, if_true, ck_v, ck_x, Option.toList, List.cons_append, List.nil_append, kil_nil, N_1, o10, o00, exN_0, exN_1, exN_2, exN_3, exN_4, exN_5, Ex]
            rfl
          · rw [if_neg h2]
            simp only [m228, s228_0, s228_1, s228_2, s228_3, s228_5, s228_7, s228_10, s228_11, s228_14, s228_17, s228_18, s228_19, s228_22, s228_25, s228_26, s228_27, s228_30, s228_33, s228_36, s228_37, s228_40, s228_41, s228_42, s228_45, s228_46, s228_49, s228_50, s228_51, s228_54, s228_57, s228_58, s228_59, s228_62, s228_63, s228_66, s228_67, s228_68, s228_71, s228_74, s228_77, s228_78, s228_79, s228_82, s228_85, s228_86, hf, N_neg (show b < 2147483648 by omega), q1, q2, q3, disturbanceM_ok hR hV, hco', ite_le, if_neg h2, if_false, if_true, ck_v, ck_x, Option.toList, List.cons_append, List.nil_append, kil_nil, N_1, o10, o00, exN_0, exN_1, exN_2, exN_3, exN_4, exN_5, Ex]
            rfl
    · have en' : (och (qw q) < 0) = False := by rw [en]; exact eq_false (fun q => hw (Or.inl q))
      have ee' : (N k = och (qw q)) = False := by rw [ee]; exact eq_false (fun q => hw (Or.inr q.symm))
      rw [hskip (by rw [hok', decide_eq_false hw, Bool.false_and])]
      rw [s228_4]
      simp only [m228, s228_0, s228_1, s228_2, s228_3, s228_5, s228_7, s228_10, s228_11, s228_14, s228_17, s228_18, s228_19, s228_22, s228_25, s228_26, s228_27, s228_30, s228_33, s228_36, s228_37, s228_40, s228_41, s228_42, s228_45, s228_46, s228_49, s228_50, s228_51, s228_54, s228_57, s228_58, s228_59, s228_62, s228_63, s228_66, s228_67, s228_68, s228_71, s228_74, s228_77, s228_78, s228_79, s228_82, s228_85, s228_86, e8, q4, en', ee', if_false, if_true, ck_v, ck_x, Option.toList, List.cons_append, List.nil_append, kil_nil, N_1, o10, o00, exN_0, exN_1, exN_2, exN_3, exN_4, exN_5, Ex]
  rw [m228]
  simp only [s228_0, s228_1, s228_2, s228_3, kil_nil]
  refine (iter (f := fun k => ev (evm (d + 5)) 228 4 [some (aR (12, 0, 0)), some (aI (och (bestf ok co k))), some (aI (N k))] [] [] (I, M, R, G)) hs).trans ?_
  have e8 : ((8 : Int32) ≤ N 8) = True := N_ge1 (a := 8) (b := 8) (Nat.le_refl _) (by decide)
  rw [s228_4]
  simp only [m228, s228_0, s228_1, s228_2, s228_3, s228_5, s228_7, s228_10, s228_11, s228_14, s228_17, s228_18, s228_19, s228_22, s228_25, s228_26, s228_27, s228_30, s228_33, s228_36, s228_37, s228_40, s228_41, s228_42, s228_45, s228_46, s228_49, s228_50, s228_51, s228_54, s228_57, s228_58, s228_59, s228_62, s228_63, s228_66, s228_67, s228_68, s228_71, s228_74, s228_77, s228_78, s228_79, s228_82, s228_85, s228_86, e8, if_false, if_true, ck_v, ck_x, Option.toList, List.cons_append, List.nil_append, kil_nil, N_1, o10, o00, exN_0, exN_1, exN_2, exN_3, exN_4, exN_5, Ex]
  rw [hok, hco]
  rfl
theorem canMove_ok {k c : Nat} (hR : RF R) (hV : MV I V) (hQ : MQy I q) (hB : QB V q) (hk : k < vn V) (hc : c < 8) : evm (d + 6) 239 [aR (12, 0, 0), aI (N k), aI (N c)] (I, M, R, G) = some (.inl (some (aI (if canM V q k c = true then 1 else 0))), (I, M, R, G)) := by
  have h7 := hV.2.2.1
  have es : ∀ j, j < vn V → (N j = och (qs q)) = (some j = qs q) := fun j hj => och_eq (by omega) (hB.s h7)
  have et : (N k = och (qt q)) = (some k = qt q) := och_eq (by omega) (hB.t h7)
  rw [m239]
  by_cases h1 : some k = qs q
  · have ep : (N k = och (qs q)) = True := by rw [es k hk]; exact eq_true h1
    have ew : canM V q k c = false := by unfold canM; simp [h1]
    rw [ew]
    simp only [s239_0, s239_1, s239_2, s239_5, s239_8, s239_9, s239_10, s239_13, s239_16, s239_17, s239_18, s239_21, s239_24, s239_25, s239_26, s239_27, s239_30, s239_31, s239_34, s239_35, s239_36, s239_37, hQ.2.2.1, ep, if_false, if_true, ck_v, ck_x, Option.toList, List.cons_append, List.nil_append, kil_nil, N_1, o10, o00, exN_0, exN_1, exN_2, exN_3, exN_4, exN_5, Ex, Bool.false_eq_true, true_or]
  · have ep : (N k = och (qs q)) = False := by rw [es k hk]; exact eq_false h1
    by_cases h2 : some k = qt q
    · have ep2 : (N k = och (qt q)) = True := by rw [et]; exact eq_true h2
      have ew : canM V q k c = false := by unfold canM; simp [h2]
      rw [ew]
      simp only [s239_0, s239_1, s239_2, s239_5, s239_8, s239_9, s239_10, s239_13, s239_16, s239_17, s239_18, s239_21, s239_24, s239_25, s239_26, s239_27, s239_30, s239_31, s239_34, s239_35, s239_36, s239_37, hQ.2.2.1, hQ.2.2.2.2, ep, ep2, if_false, if_true, ck_v, ck_x, Option.toList, List.cons_append, List.nil_append, kil_nil, N_1, o10, o00, exN_0, exN_1, exN_2, exN_3, exN_4, exN_5, Ex, Bool.false_eq_true, true_or]
    · have ep2 : (N k = och (qt q)) = False := by rw [et]; exact eq_false h2
      by_cases h3 : vl V k = true
      · have hl : licv V k = 1 := if_pos h3
        by_cases h4 : vf V k 3 = N c
        · have ew : canM V q k c = false := by unfold canM; simp [h4]
          rw [ew]
          simp only [s239_0, s239_1, s239_2, s239_5, s239_8, s239_9, s239_10, s239_13, s239_16, s239_17, s239_18, s239_21, s239_24, s239_25, s239_26, s239_27, s239_30, s239_31, s239_34, s239_35, s239_36, s239_37, hQ.2.2.1, hQ.2.2.2.2, ep, ep2, isLicensed_ok hR hV hk, hl, fV3 hR hV hk, if_pos h4, if_false, if_true, ck_v, ck_x, Option.toList, List.cons_append, List.nil_append, kil_nil, N_1, o10, o00, exN_0, exN_1, exN_2, exN_3, exN_4, exN_5, Ex, Bool.false_eq_true, true_or]
        · have hs : ∀ j, j < vn V → ev (evm (d + 5)) 239 38 [some (aR (12, 0, 0)), some (aI (N k)), some (aI (N c)), some (aI (N j))] [] [] (I, M, R, G) = if canb V q k c j = true then some (.inl (some (aI 0)), (I, M, R, G)) else ev (evm (d + 5)) 239 38 [some (aR (12, 0, 0)), some (aI (N k)), some (aI (N c)), some (aI (N (j + 1)))] [] [] (I, M, R, G) := by
            intro j hj
            have ej : (N j = N k) = (j = k) := N_inj (by omega) (by omega)
            rw [s239_38]
            by_cases g1 : j = k
            · have u1 : (N j = N k) = True := by rw [ej]; exact eq_true g1
              have ew : canb V q k c j = false := by unfold canb; simp [g1]
              rw [ew]
              simp only [m239, s239_0, s239_1, s239_2, s239_5, s239_8, s239_9, s239_10, s239_13, s239_16, s239_17, s239_18, s239_21, s239_24, s239_25, s239_26, s239_27, s239_30, s239_31, s239_34, s239_35, s239_36, s239_37, s239_39, s239_40, s239_43, s239_45, s239_46, s239_49, s239_50, s239_51, s239_54, s239_55, s239_56, s239_59, s239_62, s239_63, s239_64, s239_67, s239_70, s239_71, s239_72, s239_73, s239_76, s239_77, s239_78, s239_81, s239_82, s239_83, s239_84, s239_87, s239_90, s239_91, s239_92, s239_95, s239_98, s239_99, hR.m.1, kn7, cl7, ag35, hV.2.1, N_ge hj (show vn V < 2147483648 by omega), u1, if_false, if_true, ck_v, ck_x, Option.toList, List.cons_append, List.nil_append, kil_nil, N_1, o10, o00, exN_0, exN_1, exN_2, exN_3, exN_4, exN_5, Ex, Bool.false_eq_true]
            · have u1 : (N j = N k) = False := by rw [ej]; exact eq_false g1
              by_cases g2 : some j = qs q
              · have u2 : (N j = och (qs q)) = True := by rw [es j hj]; exact eq_true g2
                have ew : canb V q k c j = false := by unfold canb; simp [g2]
                rw [ew]
                simp only [m239, s239_0, s239_1, s239_2, s239_5, s239_8, s239_9, s239_10, s239_13, s239_16, s239_17, s239_18, s239_21, s239_24, s239_25, s239_26, s239_27, s239_30, s239_31, s239_34, s239_35, s239_36, s239_37, s239_39, s239_40, s239_43, s239_45, s239_46, s239_49, s239_50, s239_51, s239_54, s239_55, s239_56, s239_59, s239_62, s239_63, s239_64, s239_67, s239_70, s239_71, s239_72, s239_73, s239_76, s239_77, s239_78, s239_81, s239_82, s239_83, s239_84, s239_87, s239_90, s239_91, s239_92, s239_95, s239_98, s239_99, hR.m.1, kn7, cl7, ag35, hV.2.1, N_ge hj (show vn V < 2147483648 by omega), u1, hQ.2.2.1, u2, if_false, if_true, ck_v, ck_x, Option.toList, List.cons_append, List.nil_append, kil_nil, N_1, o10, o00, exN_0, exN_1, exN_2, exN_3, exN_4, exN_5, Ex, Bool.false_eq_true]
              · have u2 : (N j = och (qs q)) = False := by rw [es j hj]; exact eq_false g2
                by_cases g3 : vl V j = true
                · have hlj : licv V j = 1 := if_pos g3
                  by_cases g4 : ab (vf V j 3 - N c) < spm V k j
                  · have ew : canb V q k c j = true := by unfold canb; simp [g1, g2, g3, g4]
                    rw [ew]
                    simp only [m239, s239_0, s239_1, s239_2, s239_5, s239_8, s239_9, s239_10, s239_13, s239_16, s239_17, s239_18, s239_21, s239_24, s239_25, s239_26, s239_27, s239_30, s239_31, s239_34, s239_35, s239_36, s239_37, s239_39, s239_40, s239_43, s239_45, s239_46, s239_49, s239_50, s239_51, s239_54, s239_55, s239_56, s239_59, s239_62, s239_63, s239_64, s239_67, s239_70, s239_71, s239_72, s239_73, s239_76, s239_77, s239_78, s239_81, s239_82, s239_83, s239_84, s239_87, s239_90, s239_91, s239_92, s239_95, s239_98, s239_99, hR.m.1, kn7, cl7, ag35, hV.2.1, N_ge hj (show vn V < 2147483648 by omega), u1, hQ.2.2.1, u2, isLicensed_ok hR hV hj, hlj, fV3 hR hV hj, size_ok, separationOf_ok hR hV hk hj, ite_le, g4, if_false, if_true, ck_v, ck_x, Option.toList, List.cons_append, List.nil_append, kil_nil, N_1, o10, o00, exN_0, exN_1, exN_2, exN_3, exN_4, exN_5, Ex, true_or]
                  · have ew : canb V q k c j = false := by unfold canb; simp [g4]
                    rw [ew]
                    simp only [m239, s239_0, s239_1, s239_2, s239_5, s239_8, s239_9, s239_10, s239_13, s239_16, s239_17, s239_18, s239_21, s239_24, s239_25, s239_26, s239_27, s239_30, s239_31, s239_34, s239_35, s239_36, s239_37, s239_39, s239_40, s239_43, s239_45, s239_46, s239_49, s239_50, s239_51, s239_54, s239_55, s239_56, s239_59, s239_62, s239_63, s239_64, s239_67, s239_70, s239_71, s239_72, s239_73, s239_76, s239_77, s239_78, s239_81, s239_82, s239_83, s239_84, s239_87, s239_90, s239_91, s239_92, s239_95, s239_98, s239_99, hR.m.1, kn7, cl7, ag35, hV.2.1, N_ge hj (show vn V < 2147483648 by omega), u1, hQ.2.2.1, u2, isLicensed_ok hR hV hj, hlj, fV3 hR hV hj, size_ok, separationOf_ok hR hV hk hj, ite_le, g4, if_false, if_true, ck_v, ck_x, Option.toList, List.cons_append, List.nil_append, kil_nil, N_1, o10, o00, exN_0, exN_1, exN_2, exN_3, exN_4, exN_5, Ex, Bool.false_eq_true]
                · have hlj : licv V j = 0 := if_neg g3
                  have ew : canb V q k c j = false := by unfold canb; simp [g3]
                  rw [ew]
                  simp only [m239, s239_0, s239_1, s239_2, s239_5, s239_8, s239_9, s239_10, s239_13, s239_16, s239_17, s239_18, s239_21, s239_24, s239_25, s239_26, s239_27, s239_30, s239_31, s239_34, s239_35, s239_36, s239_37, s239_39, s239_40, s239_43, s239_45, s239_46, s239_49, s239_50, s239_51, s239_54, s239_55, s239_56, s239_59, s239_62, s239_63, s239_64, s239_67, s239_70, s239_71, s239_72, s239_73, s239_76, s239_77, s239_78, s239_81, s239_82, s239_83, s239_84, s239_87, s239_90, s239_91, s239_92, s239_95, s239_98, s239_99, hR.m.1, kn7, cl7, ag35, hV.2.1, N_ge hj (show vn V < 2147483648 by omega), u1, hQ.2.2.1, u2, isLicensed_ok hR hV hj, hlj, if_false, if_true, ck_v, ck_x, Option.toList, List.cons_append, List.nil_append, kil_nil, N_1, o10, o00, exN_0, exN_1, exN_2, exN_3, exN_4, exN_5, Ex, Bool.false_eq_true]
          have h0 := iter_fs (f := fun j => ev (evm (d + 5)) 239 38 [some (aR (12, 0, 0)), some (aI (N k)), some (aI (N c)), some (aI (N j))] [] [] (I, M, R, G)) hs
          have hf : ev (evm (d + 5)) 239 38 [some (aR (12, 0, 0)), some (aI (N k)), some (aI (N c)), some (aI (N (vn V)))] [] [] (I, M, R, G) = some (.inl (some (aI 1)), (I, M, R, G)) := by
            rw [s239_38]
            simp only [m239, s239_0, s239_1, s239_2, s239_5, s239_8, s239_9, s239_10, s239_13, s239_16, s239_17, s239_18, s239_21, s239_24, s239_25, s239_26, s239_27, s239_30, s239_31, s239_34, s239_35, s239_36, s239_37, s239_39, s239_40, s239_43, s239_45, s239_46, s239_49, s239_50, s239_51, s239_54, s239_55, s239_56, s239_59, s239_62, s239_63, s239_64, s239_67, s239_70, s239_71, s239_72, s239_73, s239_76, s239_77, s239_78, s239_81, s239_82, s239_83, s239_84, s239_87, s239_90, s239_91, s239_92, s239_95, s239_98, s239_99, hR.m.1, kn7, cl7, ag35, hV.2.1, N_ge1 (Nat.le_refl (vn V)) (show vn V < 2147483648 by omega), if_false, if_true, ck_v, ck_x, Option.toList, List.cons_append, List.nil_append, kil_nil, N_1, o10, o00, exN_0, exN_1, exN_2, exN_3, exN_4, exN_5, Ex, or_true]
          simp only [s239_0, s239_1, s239_2, s239_5, s239_8, s239_9, s239_10, s239_13, s239_16, s239_17, s239_18, s239_21, s239_24, s239_25, s239_26, s239_27, s239_30, s239_31, s239_34, s239_35, s239_36, s239_37, hQ.2.2.1, hQ.2.2.2.2, ep, ep2, isLicensed_ok hR hV hk, hl, fV3 hR hV hk, if_neg h4, if_false, if_true, ck_v, ck_x, Option.toList, List.cons_append, List.nil_append, kil_nil, N_1, o10, o00, exN_0, exN_1, exN_2, exN_3, exN_4, exN_5, Ex]
          refine h0.trans ?_
          rw [hf]
          by_cases hz : fs (canb V q k c) (vn V) < vn V
          · have ew : canM V q k c = false := by unfold canM; simp [hz]
            rw [if_pos hz, ew]
            rfl
          · have ew : canM V q k c = true := by unfold canM; simp [h1, h2, h3, h4, hz]
            rw [if_neg hz, ew]
            rfl
      · have hl : licv V k = 0 := if_neg h3
        have ew : canM V q k c = false := by unfold canM; simp [h3]
        rw [ew]
        simp only [s239_0, s239_1, s239_2, s239_5, s239_8, s239_9, s239_10, s239_13, s239_16, s239_17, s239_18, s239_21, s239_24, s239_25, s239_26, s239_27, s239_30, s239_31, s239_34, s239_35, s239_36, s239_37, hQ.2.2.1, hQ.2.2.2.2, ep, ep2, isLicensed_ok hR hV hk, hl, if_false, if_true, ck_v, ck_x, Option.toList, List.cons_append, List.nil_append, kil_nil, N_1, o10, o00, exN_0, exN_1, exN_2, exN_3, exN_4, exN_5, Ex, Bool.false_eq_true, true_or]
end MSEARCH
