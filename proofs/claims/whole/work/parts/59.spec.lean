/-! THE METHODS' MEANING: a station goes -/
def sh (p k : Nat) : Nat := if k < p then k else k + 1
def remB (B : Bk) (p : Nat) : Bk := ((B.1.1, vn B.1 - 1, (fun k f => vf B.1 (sh p k) f), (fun k => vl B.1 (sh p k)), (fun a b => vc B.1 (sh p a) (sh p b))), B.2)
def rmv (I : OId → Nat → Int32) (p i j : Nat) : Int32 := if sh p i < 7 ∧ sh p j < 7 then I (21, 0, 0) (7 * sh p i + sh p j) else 0
def rmI (I : OId → Nat → Int32) (p x : Nat) : OId → Nat → Int32 := fun o f => if o = (21, 0, 0) ∧ f < x then rmv I p (f / 7) (f % 7) else I o f
def rsI (I : OId → Nat → Int32) (p i : Nat) : OId → Nat → Int32 := fun o f => if (o.1 = 10 ∧ o.2.1 = 0 ∧ p ≤ o.2.2 ∧ o.2.2 < i) ∧ f < 6 then (if f = 5 then bb (I (10, 0, o.2.2 + 1) 5) else I (10, 0, o.2.2 + 1) f) else I o f
def rvI (I : OId → Nat → Int32) (p n : Nat) : OId → Nat → Int32 := setI (rmI (rsI I p (n - 1)) p 49) (4, 0, 0) 7 (N (n - 1))
theorem rmI_ne {I : OId → Nat → Int32} {p x : Nat} {o : OId} (h : o ≠ (21, 0, 0)) : rmI I p x o = I o := by
  funext f
  unfold rmI
  rw [if_neg (fun q => h q.1)]
theorem rmI_hi {I : OId → Nat → Int32} {p x f : Nat} (h : x ≤ f) : rmI I p x (21, 0, 0) f = I (21, 0, 0) f := by
  unfold rmI
  rw [if_neg (fun q => by omega)]
theorem rmI_s {I : OId → Nat → Int32} {p i j : Nat} (hj : j < 7) : setI (rmI I p (7 * i + j)) (21, 0, 0) (7 * i + j) (rmv I p i j) = rmI I p (7 * i + (j + 1)) := by
  funext o f
  unfold setI
  by_cases hq : o = (21, 0, 0) ∧ f = 7 * i + j
  · obtain ⟨rfl, rfl⟩ := hq
    rw [if_pos ⟨rfl, rfl⟩]
    unfold rmI
    rw [if_pos ⟨rfl, by omega⟩, show (7 * i + j) / 7 = i by omega, show (7 * i + j) % 7 = j by omega]
  · rw [if_neg hq]
    unfold rmI
    have hcc : (o = (21, 0, 0) ∧ f < 7 * i + j) = (o = (21, 0, 0) ∧ f < 7 * i + (j + 1)) := propext ⟨fun q => ⟨q.1, by omega⟩, fun q => ⟨q.1, by
      have h1 : ¬ f = 7 * i + j := fun e => hq ⟨q.1, e⟩
      omega⟩⟩
    simp only [hcc]
theorem rsI_ne {I : OId → Nat → Int32} {p i : Nat} {o : OId} (h : ¬ (o.1 = 10 ∧ o.2.1 = 0)) : rsI I p i o = I o := by
  funext f
  unfold rsI
  rw [if_neg (fun q => h ⟨q.1.1, q.1.2.1⟩)]
section REMOVE
variable {d : Nat} {I : OId → Nat → Int32} {M R : OId → Nat → AV} {G : SG} {B : Bk}
theorem removeComplaints_ok {p : Nat} (hR : RF R) (hp : p < 7) : evm (d + 3) 82 [aR (4, 0, 0), aI (N p)] (I, M, R, G) = some (.inl none, (rmI I p 49, M, R, G)) := by
  rw [m82]
  simp only [s82_0, s82_1, kil_nil]
  have h10 := (hR.b (show 0 < 8 by decide)).2.2.1
  have hk21 : kOf (21, 0, 0) = .inr (.int, 49) := rfl
  have inner : ∀ i, i < 7 → ∀ l3 l4 : Option AV, ∃ l4' : Option AV, ev (evm (d + 2)) 82 2 [some (aR (4, 0, 0)), some (aI (N p)), some (aI (N i)), l3, l4] [] [] (rmI I p (7 * i), M, R, G) = ev (evm (d + 2)) 82 2 [some (aR (4, 0, 0)), some (aI (N p)), some (aI (N (i + 1))), some (aI (N 7)), l4'] [] [] (rmI I p (7 * (i + 1)), M, R, G) := by
    intro i hi l3 l4
    have hst : ∀ j (l4 : Option AV), j < 7 → ev (evm (d + 2)) 82 10 [some (aR (4, 0, 0)), some (aI (N p)), some (aI (N i)), some (aI (N j)), l4] [] [] (rmI I p (7 * i + j), M, R, G) = ev (evm (d + 2)) 82 10 [some (aR (4, 0, 0)), some (aI (N p)), some (aI (N i)), some (aI (N (j + 1))), some (aI (rmv I p i j))] [] [] (rmI I p (7 * i + (j + 1)), M, R, G) := by
      intro j l4 hj
      have hv : evm (d + 2) 29 [aR (4, 0, 0), aI (N (sh p i)), aI (N (sh p j))] (rmI I p (7 * i + j), M, R, G) = some (.inl (some (aI (rmv I p i j))), (rmI I p (7 * i + j), M, R, G)) := by
        unfold rmv
        have s1 : i ≤ sh p i := by unfold sh; split <;> omega
        have s2 : j ≤ sh p j := by unfold sh; split <;> omega
        have s3 : sh p i < 8 := by unfold sh; split <;> omega
        have s4 : sh p j < 8 := by unfold sh; split <;> omega
        by_cases h1 : sh p i < 7 ∧ sh p j < 7
        · rw [if_pos h1, cmB_ok hR (show 0 < 8 by decide) h1.1 h1.2, cmB, rmI_hi (by omega)]
        · rw [if_neg h1]
          exact cmB_hi hR (show 0 < 8 by decide) ⟨by omega, by omega, by omega⟩
      have hput : evm (d + 2) 35 [aR (21, 0, 0), aI (N (7 * i + j)), aI (rmv I p i j)] (rmI I p (7 * i + j), M, R, G) = some (.inl none, (rmI I p (7 * i + (j + 1)), M, R, G)) := by
        rw [← rmI_s hj]
        exact put_N (S := (rmI I p (7 * i + j), M, R, G)) hk21 rfl (by omega) (by decide)
      rw [s82_10]
      have hji : (N i < N p) = (i < p) := N_lt (by omega) (by omega)
      have hjj : (N j < N p) = (j < p) := N_lt (by omega) (by omega)
      by_cases h1 : i < p <;> by_cases h2 : j < p
      · have a1 : sh p i = i := if_pos h1
        have a2 : sh p j = j := if_pos h2
        rw [a1, a2] at hv
        simp only [m82, s82_0, s82_1, s82_3, s82_5, s82_8, s82_9, s82_11, s82_13, s82_16, s82_17, s82_18, s82_19, s82_22, s82_23, s82_26, s82_27, s82_28, s82_29, s82_30, s82_31, s82_34, s82_35, s82_38, s82_39, s82_40, s82_41, s82_44, s82_46, s82_47, s82_50, s82_51, s82_52, s82_55, s82_57, s82_60, s82_63, s82_66, s82_69, s82_72, N7 hj, ite_le, hji, hjj, h1, h2, hv, h10, pair_N hi hj, hput, if_false, if_true, ck_v, ck_x, Option.toList, List.cons_append, List.nil_append, kil_nil, N_1, o10, o00, exN_0, exN_1, exN_2, exN_3, exN_4, exN_5, Ex]
      · have a1 : sh p i = i := if_pos h1
        have a2 : sh p j = j + 1 := if_neg h2
        rw [a1, a2] at hv
        simp only [m82, s82_0, s82_1, s82_3, s82_5, s82_8, s82_9, s82_11, s82_13, s82_16, s82_17, s82_18, s82_19, s82_22, s82_23, s82_26, s82_27, s82_28, s82_29, s82_30, s82_31, s82_34, s82_35, s82_38, s82_39, s82_40, s82_41, s82_44, s82_46, s82_47, s82_50, s82_51, s82_52, s82_55, s82_57, s82_60, s82_63, s82_66, s82_69, s82_72, N7 hj, ite_le, hji, hjj, h1, h2, hv, h10, pair_N hi hj, hput, if_false, if_true, ck_v, ck_x, Option.toList, List.cons_append, List.nil_append, kil_nil, N_1, o10, o00, exN_0, exN_1, exN_2, exN_3, exN_4, exN_5, Ex]
      · have a1 : sh p i = i + 1 := if_neg h1
        have a2 : sh p j = j := if_pos h2
        rw [a1, a2] at hv
        simp only [m82, s82_0, s82_1, s82_3, s82_5, s82_8, s82_9, s82_11, s82_13, s82_16, s82_17, s82_18, s82_19, s82_22, s82_23, s82_26, s82_27, s82_28, s82_29, s82_30, s82_31, s82_34, s82_35, s82_38, s82_39, s82_40, s82_41, s82_44, s82_46, s82_47, s82_50, s82_51, s82_52, s82_55, s82_57, s82_60, s82_63, s82_66, s82_69, s82_72, N7 hj, ite_le, hji, hjj, h1, h2, hv, h10, pair_N hi hj, hput, if_false, if_true, ck_v, ck_x, Option.toList, List.cons_append, List.nil_append, kil_nil, N_1, o10, o00, exN_0, exN_1, exN_2, exN_3, exN_4, exN_5, Ex]
      · have a1 : sh p i = i + 1 := if_neg h1
        have a2 : sh p j = j + 1 := if_neg h2
        rw [a1, a2] at hv
        simp only [m82, s82_0, s82_1, s82_3, s82_5, s82_8, s82_9, s82_11, s82_13, s82_16, s82_17, s82_18, s82_19, s82_22, s82_23, s82_26, s82_27, s82_28, s82_29, s82_30, s82_31, s82_34, s82_35, s82_38, s82_39, s82_40, s82_41, s82_44, s82_46, s82_47, s82_50, s82_51, s82_52, s82_55, s82_57, s82_60, s82_63, s82_66, s82_69, s82_72, N7 hj, ite_le, hji, hjj, h1, h2, hv, h10, pair_N hi hj, hput, if_false, if_true, ck_v, ck_x, Option.toList, List.cons_append, List.nil_append, kil_nil, N_1, o10, o00, exN_0, exN_1, exN_2, exN_3, exN_4, exN_5, Ex]
    have h77 : (7 ≤ N 7) = True := N_ge1 (a := 7) (b := 7) (Nat.le_refl _) (by decide)
    have hrun : ∀ n, n ≤ 7 → ∀ l4 : Option AV, ∃ l4' : Option AV, ev (evm (d + 2)) 82 10 [some (aR (4, 0, 0)), some (aI (N p)), some (aI (N i)), some (aI (N 0)), l4] [] [] (rmI I p (7 * i + 0), M, R, G) = ev (evm (d + 2)) 82 10 [some (aR (4, 0, 0)), some (aI (N p)), some (aI (N i)), some (aI (N n)), l4'] [] [] (rmI I p (7 * i + n), M, R, G) := by
      intro n
      induction n with
      | zero => exact fun _ l4 => ⟨l4, rfl⟩
      | succ n ih =>
        intro hn l4
        obtain ⟨l4', h9⟩ := ih (by omega) l4
        exact ⟨_, h9.trans (hst n l4' (by omega))⟩
    obtain ⟨l4', h9⟩ := hrun 7 (Nat.le_refl _) l4
    refine ⟨l4', ?_⟩
    rw [s82_2]
    simp only [m82, s82_0, s82_1, s82_3, s82_5, s82_8, s82_9, s82_11, s82_13, s82_16, s82_17, s82_18, s82_19, s82_22, s82_23, s82_26, s82_27, s82_28, s82_29, s82_30, s82_31, s82_34, s82_35, s82_38, s82_39, s82_40, s82_41, s82_44, s82_46, s82_47, s82_50, s82_51, s82_52, s82_55, s82_57, s82_60, s82_63, s82_66, s82_69, s82_72, N7 hi, if_false, if_true, ck_v, ck_x, Option.toList, List.cons_append, List.nil_append, kil_nil, N_1, o10, o00, exN_0, exN_1, exN_2, exN_3, exN_4, exN_5, Ex]
    refine h9.trans ?_
    rw [s82_10]
    simp only [m82, s82_0, s82_1, s82_3, s82_5, s82_8, s82_9, s82_11, s82_13, s82_16, s82_17, s82_18, s82_19, s82_22, s82_23, s82_26, s82_27, s82_28, s82_29, s82_30, s82_31, s82_34, s82_35, s82_38, s82_39, s82_40, s82_41, s82_44, s82_46, s82_47, s82_50, s82_51, s82_52, s82_55, s82_57, s82_60, s82_63, s82_66, s82_69, s82_72, h77, if_false, if_true, ck_v, ck_x, Option.toList, List.cons_append, List.nil_append, kil_nil, N_1, o10, o00, exN_0, exN_1, exN_2, exN_3, exN_4, exN_5, Ex]
    rfl
  have hout : ∀ n, n ≤ 7 → ∃ l3 l4 : Option AV, ev (evm (d + 2)) 82 2 [some (aR (4, 0, 0)), some (aI (N p)), some (aI (N 0)), none, none] [] [] (rmI I p (7 * 0), M, R, G) = ev (evm (d + 2)) 82 2 [some (aR (4, 0, 0)), some (aI (N p)), some (aI (N n)), l3, l4] [] [] (rmI I p (7 * n), M, R, G) := by
    intro n
    induction n with
    | zero => exact fun _ => ⟨none, none, rfl⟩
    | succ n ih =>
      intro hn
      obtain ⟨l3, l4, h9⟩ := ih (by omega)
      obtain ⟨l4', h8⟩ := inner n (by omega) l3 l4
      exact ⟨_, _, h9.trans h8⟩
  obtain ⟨l3, l4, h9⟩ := hout 7 (Nat.le_refl _)
  have e0 : rmI I p (7 * 0) = I := by
    funext o f
    unfold rmI
    rw [if_neg (fun q => by omega)]
  rw [e0] at h9
  refine h9.trans ?_
  have h77 : (7 ≤ N 7) = True := N_ge1 (a := 7) (b := 7) (Nat.le_refl _) (by decide)
  rw [s82_2]
  simp only [m82, s82_0, s82_1, s82_3, s82_5, s82_8, s82_9, s82_11, s82_13, s82_16, s82_17, s82_18, s82_19, s82_22, s82_23, s82_26, s82_27, s82_28, s82_29, s82_30, s82_31, s82_34, s82_35, s82_38, s82_39, s82_40, s82_41, s82_44, s82_46, s82_47, s82_50, s82_51, s82_52, s82_55, s82_57, s82_60, s82_63, s82_66, s82_69, s82_72, h77, if_false, if_true, ck_v, ck_x, Option.toList, List.cons_append, List.nil_append, kil_nil, N_1, o10, o00, exN_0, exN_1, exN_2, exN_3, exN_4, exN_5, Ex]
theorem remove_ok {p : Nat} (hR : RF R) (h : BA I 0 B) (hp : p < vn B.1) : evm (d + 4) 81 [aR (4, 0, 0), aI (N p)] (I, M, R, G) = some (.inl none, (rvI I p (vn B.1), M, R, G)) := by
  have h7 := h.1.2.2.1
  rw [m81]
  simp only [s81_0, s81_1, kil_nil]
  have ec : N (vn B.1) - 1 = N (vn B.1 - 1) := by
    have h9 : N (vn B.1 - 1) + 1 = N (vn B.1) := by
      rw [N_1]
      exact congrArg N (by omega)
    rw [← h9]
    grind
  have hcn : ∀ i, rsI I p i (4, 0, 0) = I (4, 0, 0) := fun i => rsI_ne (by simp)
  have hst : ∀ i, p ≤ i → i < vn B.1 - 1 → ev (evm (d + 3)) 81 2 [some (aR (4, 0, 0)), some (aI (N p)), some (aI (N i))] [] [] (rsI I p i, M, R, G) = ev (evm (d + 3)) 81 2 [some (aR (4, 0, 0)), some (aI (N p)), some (aI (N (i + 1)))] [] [] (rsI I p (i + 1), M, R, G) := by
    intro i hpi hi
    have hcp : cpS (rsI I p i) (10, 0, i) (10, 0, i + 1) = rsI I p (i + 1) := by
      funext o f
      obtain ⟨a, b, c⟩ := o
      unfold cpS
      by_cases ho : (a, b, c) = ((10, 0, i) : OId) ∧ f < 6
      · obtain ⟨ho, hf⟩ := ho
        simp only [Prod.mk.injEq] at ho
        obtain ⟨rfl, rfl, rfl⟩ := ho
        simp [rsI, hf, hpi, show ¬ (c + 1 < c) by omega]
      · rw [if_neg ho]
        unfold rsI
        have hcc : ((a = 10 ∧ b = 0 ∧ p ≤ c ∧ c < i) ∧ f < 6) = ((a = 10 ∧ b = 0 ∧ p ≤ c ∧ c < i + 1) ∧ f < 6) := by
          refine propext ⟨fun q => ⟨⟨q.1.1, q.1.2.1, q.1.2.2.1, by omega⟩, q.2⟩, fun q => ⟨⟨q.1.1, q.1.2.1, q.1.2.2.1, ?_⟩, q.2⟩⟩
          rcases Nat.lt_succ_iff_lt_or_eq.mp q.1.2.2.2 with h5 | h5
          · exact h5
          · exact absurd ⟨by rw [q.1.1, q.1.2.1, h5], q.2⟩ ho
        simp only [hcc]
    rw [s81_2]
    simp only [m81, s81_0, s81_1, s81_3, s81_4, s81_7, s81_8, s81_9, s81_12, s81_13, s81_14, s81_17, s81_18, s81_19, s81_20, s81_21, s81_24, s81_27, s81_30, s81_33, s81_34, s81_35, s81_38, s81_39, s81_40, s81_43, s81_44, s81_45, s81_48, hcn, h.1.2.1, ec, N_ge hi (show vn B.1 - 1 < 2147483648 by omega), at_N hR (show 0 < 8 by decide) (show i < 7 by omega), at_N hR (show 0 < 8 by decide) (show i + 1 < 7 by omega), takeS_ok (show (10, 0, i + 1) ≠ ((10, 0, i) : OId) by simp), hcp, if_false, if_true, ck_v, ck_x, Option.toList, List.cons_append, List.nil_append, kil_nil, N_1, o10, o00, exN_0, exN_1, exN_2, exN_3, exN_4, exN_5, Ex]
  have e0 : ev (evm (d + 3)) 81 2 [some (aR (4, 0, 0)), some (aI (N p)), some (aI (N p))] [] [] (I, M, R, G) = ev (evm (d + 3)) 81 2 [some (aR (4, 0, 0)), some (aI (N p)), some (aI (N p))] [] [] (rsI I p p, M, R, G) := by
    have e : rsI I p p = I := by
      funext o f
      unfold rsI
      rw [if_neg (fun q => by omega)]
    rw [e]
  refine e0.trans ?_
  refine (iter_to (f := fun i => ev (evm (d + 3)) 81 2 [some (aR (4, 0, 0)), some (aI (N p)), some (aI (N i))] [] [] (rsI I p i, M, R, G)) (show p ≤ vn B.1 - 1 by omega) hst).trans ?_
  have hc2 : rmI (rsI I p (vn B.1 - 1)) p 49 (4, 0, 0) 7 = N (vn B.1) := by rw [rmI_ne (by simp), hcn, h.1.2.1]
  rw [s81_2]
  simp only [m81, s81_0, s81_1, s81_3, s81_4, s81_7, s81_8, s81_9, s81_12, s81_13, s81_14, s81_17, s81_18, s81_19, s81_20, s81_21, s81_24, s81_27, s81_30, s81_33, s81_34, s81_35, s81_38, s81_39, s81_40, s81_43, s81_44, s81_45, s81_48, hcn, h.1.2.1, ec, N_ge1 (Nat.le_refl (vn B.1 - 1)) (show vn B.1 - 1 < 2147483648 by omega), removeComplaints_ok hR (show p < 7 by omega), if_false, if_true, ck_v, ck_x, Option.toList, List.cons_append, List.nil_append, kil_nil, N_1, o10, o00, exN_0, exN_1, exN_2, exN_3, exN_4, exN_5, Ex, hc2, rvI]
theorem remove_ba {p : Nat} (h : BA I 0 B) (hp : p < vn B.1) : BA (rvI I p (vn B.1)) 0 (remB B p) := by
  obtain ⟨⟨⟨r0, r1, r2⟩, hc, h7, hf, hl, hcm⟩, h3, h4, h5, h6, hm, hpl, hz⟩ := h
  have e4 : ∀ f, f ≠ 7 → rvI I p (vn B.1) (4, 0, 0) f = I (4, 0, 0) f := fun f hf => by
    unfold rvI
    rw [setI_at, if_neg hf, rmI_ne (by simp), rsI_ne (by simp)]
  have e47 : rvI I p (vn B.1) (4, 0, 0) 7 = N (vn B.1 - 1) := by
    unfold rvI
    rw [setI_at, if_pos rfl]
  have eo : ∀ o : OId, o ≠ (4, 0, 0) → o ≠ (21, 0, 0) → o.1 ≠ 10 → rvI I p (vn B.1) o = I o := fun o h1 h2 h3 => by
    unfold rvI
    rw [setI_ne h1, rmI_ne h2, rsI_ne (fun q => h3 q.1)]
  have e10 : ∀ k, k < vn B.1 - 1 → ∀ f, f < 6 → rvI I p (vn B.1) (10, 0, k) f = (if p ≤ k then (if f = 5 then bb (I (10, 0, k + 1) 5) else I (10, 0, k + 1) f) else I (10, 0, k) f) := fun k hk f hf => by
    unfold rvI
    rw [setI_ne (by simp), rmI_ne (by simp)]
    unfold rsI
    by_cases hpk : p ≤ k
    · rw [if_pos ⟨⟨rfl, rfl, hpk, hk⟩, hf⟩, if_pos hpk]
    · rw [if_neg (fun q => hpk q.1.2.2.1), if_neg hpk]
  have e21 : ∀ a b, a < 7 → b < 7 → rvI I p (vn B.1) (21, 0, 0) (7 * a + b) = rmv I p a b := fun a b ha hb => by
    unfold rvI
    rw [setI_ne (by simp)]
    unfold rmI
    rw [if_pos ⟨rfl, by omega⟩, show (7 * a + b) / 7 = a by omega, show (7 * a + b) % 7 = b by omega]
    unfold rmv
    rw [rsI_ne (by simp)]
  refine ⟨⟨⟨?_, ?_, ?_⟩, ?_, ?_, ?_, ?_, ?_⟩, ?_, ?_, ?_, ?_, ?_, ?_, ?_⟩
  · rw [e4 0 (by decide)]; exact r0
  · rw [e4 1 (by decide)]; exact r1
  · rw [e4 2 (by decide)]; exact r2
  · exact e47
  · show vn B.1 - 1 ≤ 7
    omega
  · intro k hk f hf'
    have hk' : k < vn B.1 - 1 := hk
    rw [e10 k hk' f (by omega)]
    show _ = vf B.1 (sh p k) f
    unfold sh
    by_cases hpk : p ≤ k
    · rw [if_pos hpk, if_neg (by omega), if_neg (by omega)]
      exact hf (k + 1) (by omega) f hf'
    · rw [if_neg hpk, if_pos (by omega)]
      exact hf k (by omega) f hf'
  · intro k hk
    have hk' : k < vn B.1 - 1 := hk
    rw [e10 k hk' 5 (by decide)]
    show _ = if vl B.1 (sh p k) = true then 0 else 1
    by_cases hpk : p ≤ k
    · have es : sh p k = k + 1 := if_neg (by omega)
      rw [if_pos hpk, if_pos rfl, bb_bb, es]
      exact hl (k + 1) (by omega)
    · have es : sh p k = k := if_pos (by omega)
      rw [if_neg hpk, es]
      exact hl k (by omega)
  · intro a b ha hb
    have ha' : a < vn B.1 - 1 := ha
    have hb' : b < vn B.1 - 1 := hb
    rw [e21 a b (by omega) (by omega)]
    show rmv I p a b = vc B.1 (sh p a) (sh p b)
    have s1 : sh p a < vn B.1 := by unfold sh; split <;> omega
    have s2 : sh p b < vn B.1 := by unfold sh; split <;> omega
    unfold rmv
    rw [if_pos ⟨by omega, by omega⟩]
    exact hcm _ _ s1 s2
  · rw [e4 3 (by decide)]; exact h3
  · rw [e4 4 (by decide)]; exact h4
  · rw [e4 5 (by decide)]; exact h5
  · rw [e4 6 (by decide)]; exact h6
  · rw [eo (7, 0, 0) (by simp) (by simp) (by simp)]; exact hm
  · intro m hm
    rw [eo (22, 0, 0) (by simp) (by simp) (by simp), eo (23, 0, 0) (by simp) (by simp) (by simp), eo (24, 0, 0) (by simp) (by simp) (by simp)]
    exact hpl m hm
  · intro a b ha hb hab
    have hab' : vn B.1 - 1 ≤ a ∨ vn B.1 - 1 ≤ b := hab
    rw [e21 a b ha hb]
    unfold rmv
    by_cases hq : sh p a < 7 ∧ sh p b < 7
    · rw [if_pos hq]
      refine hz _ _ hq.1 hq.2 ?_
      rcases hab' with q | q
      · exact Or.inl (by unfold sh; rw [if_neg (by omega)]; omega)
      · exact Or.inr (by unfold sh; rw [if_neg (by omega)]; omega)
    · rw [if_neg hq]
theorem rvI_fr {p n : Nat} {o : OId} (h1 : o ≠ (4, 0, 0)) (h2 : o ≠ (21, 0, 0)) (h3 : ¬ (o.1 = 10 ∧ o.2.1 = 0)) : rvI I p n o = I o := by
  unfold rvI
  rw [setI_ne h1, rmI_ne h2, rsI_ne h3]
end REMOVE
