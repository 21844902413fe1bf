/-! THE METHODS' MEANING: copying books -/
/-- a station's fields are laid over another's -/
def cpS (I : OId → Nat → Int32) (a b : OId) : OId → Nat → Int32 := fun o f => if o = a ∧ f < 6 then (if f = 5 then bb (I b 5) else I b f) else I o f
theorem set6 {I : OId → Nat → Int32} {a : OId} {x0 x1 x2 x3 x4 x5 : Int32} : setI (setI (setI (setI (setI (setI I a 0 x0) a 1 x1) a 2 x2) a 3 x3) a 4 x4) a 5 x5 = fun o f => if o = a ∧ f < 6 then (match f with | 0 => x0 | 1 => x1 | 2 => x2 | 3 => x3 | 4 => x4 | _ => x5) else I o f := by
  funext o f
  unfold setI
  by_cases ho : o = a
  · match f with
    | 0 => simp [ho]
    | 1 => simp [ho]
    | 2 => simp [ho]
    | 3 => simp [ho]
    | 4 => simp [ho]
    | 5 => simp [ho]
    | f + 6 =>
      simp [ho]
      intro h
      omega
  · simp [ho]
theorem set8 {I : OId → Nat → Int32} {a : OId} {x0 x1 x2 x3 x4 x5 x6 x7 : Int32} : setI (setI (setI (setI (setI (setI (setI (setI I a 0 x0) a 1 x1) a 2 x2) a 3 x3) a 4 x4) a 5 x5) a 6 x6) a 7 x7 = fun o f => if o = a ∧ f < 8 then (match f with | 0 => x0 | 1 => x1 | 2 => x2 | 3 => x3 | 4 => x4 | 5 => x5 | 6 => x6 | _ => x7) else I o f := by
  funext o f
  unfold setI
  by_cases ho : o = a
  · match f with
    | 0 => simp [ho]
    | 1 => simp [ho]
    | 2 => simp [ho]
    | 3 => simp [ho]
    | 4 => simp [ho]
    | 5 => simp [ho]
    | 6 => simp [ho]
    | 7 => simp [ho]
    | f + 8 =>
      simp [ho]
      intro h
      omega
  · simp [ho]
section COPY
variable {d : Nat} {I : OId → Nat → Int32} {M R : OId → Nat → AV} {G : SG}
theorem takeS_ok {j k i m : Nat} (hne : (10, i, m) ≠ ((10, j, k) : OId)) : evm (d + 1) 54 [aR (10, j, k), aR (10, i, m)] (I, M, R, G) = some (.inl none, (cpS I (10, j, k) (10, i, m), M, R, G)) := by
  simp only [m54, s54_0, s54_1, s54_2, s54_5, s54_8, s54_9, s54_10, s54_13, s54_16, s54_17, s54_18, s54_21, s54_24, s54_25, s54_26, s54_29, s54_32, s54_33, s54_34, s54_37, s54_40, s54_41, s54_42, s54_45, s54_48, bb_01, if_true, setI_ne hne, set6]
  have e : (fun (o : OId) (f : Nat) => if o = (10, j, k) ∧ f < 6 then (match f with | 0 => I (10, i, m) 0 | 1 => I (10, i, m) 1 | 2 => I (10, i, m) 2 | 3 => I (10, i, m) 3 | 4 => I (10, i, m) 4 | _ => bb (I (10, i, m) 5)) else I o f) = cpS I (10, j, k) (10, i, m) := by
    funext o f
    unfold cpS
    by_cases ho : o = (10, j, k) ∧ f < 6
    · rw [if_pos ho, if_pos ho]
      match f, ho.2 with
      | 0, _ => rfl
      | 1, _ => rfl
      | 2, _ => rfl
      | 3, _ => rfl
      | 4, _ => rfl
      | 5, _ => rfl
    · rw [if_neg ho, if_neg ho]
  rw [e]
/-- a row of n numbers is laid over another -/
def cpR (I : OId → Nat → Int32) (a b : OId) (n : Nat) : OId → Nat → Int32 := fun o f => if o = a ∧ f < n then I b f else I o f
theorem acp_ok {a b : OId} {n : Nat} (ha : kOf a = .inr (.int, n)) (hb : kOf b = .inr (.int, n)) (ra : isRo a = false) (rb : isRo b = false) (hne : b ≠ a) (hn : n < 2147483648) {S : SS} : acp S b 0 a 0 (N n) = some (cpR S.1 a b n, S.2) := by
  have h0 : (0 : Int32).toNatClampNeg = 0 := rfl
  have h1 : ¬ (0 : Int32) < 0 := by decide
  have hnn : ¬ N n < 0 := by rw [N_neg hn]; exact fun q => q
  simp only [acp, ha, hb, ra, rb, hne, N_cl hn, h0, ne_eq, not_false_eq_true, h1, hnn, Nat.zero_add, Nat.le_refl, and_self, if_true]
  congr 2
  funext o f
  unfold setRow cpR va_cpy
  by_cases ho : o = a
  · subst ho
    simp
  · simp [ho]
theorem takeP_ok {j i : Nat} (hR : RF R) (hj : j < 9) (hi : i < 9) (hne : i ≠ j) : evm (d + 1) 55 [aR (7, j, 0), aR (7, i, 0)] (I, M, R, G) = some (.inl none, (cpR (cpR (cpR (cpR I (7, j, 0) (7, i, 0) 2) (22, j, 0) (22, i, 0) 2) (23, j, 0) (23, i, 0) 2) (24, j, 0) (24, i, 0) 2, M, R, G)) := by
  obtain ⟨a1, a2, a3⟩ := hR.2.2.1 j hj
  obtain ⟨b1, b2, b3⟩ := hR.2.2.1 i hi
  have n7 : ((7, i, 0) : OId) ≠ (7, j, 0) := by simp [hne]
  have n22 : ((22, i, 0) : OId) ≠ (22, j, 0) := by simp [hne]
  have n23 : ((23, i, 0) : OId) ≠ (23, j, 0) := by simp [hne]
  have n24 : ((24, i, 0) : OId) ≠ (24, j, 0) := by simp [hne]
  have e : setI (setI I (7, j, 0) 0 (I (7, i, 0) 0)) (7, j, 0) 1 (I (7, i, 0) 1) = cpR I (7, j, 0) (7, i, 0) 2 := by
    funext o f
    unfold setI cpR
    by_cases ho : o = (7, j, 0)
    · match f with
      | 0 => simp [ho]
      | 1 => simp [ho]
      | f + 2 =>
        simp [ho]
        intro h
        omega
    · simp [ho]
  have q22 : ∀ S : SS, acp S (22, i, 0) 0 (22, j, 0) 0 2 = some (cpR S.1 (22, j, 0) (22, i, 0) 2, S.2) := fun S => acp_ok (n := 2) rfl rfl rfl rfl n22 (by decide)
  have q23 : ∀ S : SS, acp S (23, i, 0) 0 (23, j, 0) 0 2 = some (cpR S.1 (23, j, 0) (23, i, 0) 2, S.2) := fun S => acp_ok (n := 2) rfl rfl rfl rfl n23 (by decide)
  have q24 : ∀ S : SS, acp S (24, i, 0) 0 (24, j, 0) 0 2 = some (cpR S.1 (24, j, 0) (24, i, 0) 2, S.2) := fun S => acp_ok (n := 2) rfl rfl rfl rfl n24 (by decide)
  simp only [m55, s55_0, s55_1, s55_2, s55_5, s55_8, s55_9, s55_10, s55_13, s55_16, s55_17, s55_20, s55_21, s55_22, s55_25, s55_26, s55_27, s55_30, s55_31, s55_34, s55_35, s55_36, s55_39, s55_40, s55_41, s55_44, s55_45, s55_48, s55_49, s55_50, s55_53, s55_54, s55_55, s55_58, a1, a2, a3, b1, b2, b3, setI_ne n7, e, q22, q23, q24, kA]
/-- the cells of books j -/
def inBk (j : Nat) (o : OId) : Prop := o.2.1 = j ∧ (o.1 = 4 ∨ o.1 = 10 ∨ o.1 = 21 ∨ o.1 = 7 ∨ o.1 = 22 ∨ o.1 = 23 ∨ o.1 = 24)
theorem BV.fr {I I' : OId → Nat → Int32} {j : Nat} {V : Vw} (h : BV I j V) (hf : ∀ o, inBk j o → I' o = I o) : BV I' j V := by
  unfold BV at h ⊢
  simp only [hf (4, j, 0) ⟨rfl, by simp⟩, hf (21, j, 0) ⟨rfl, by simp⟩, fun k => hf (10, j, k) ⟨rfl, by simp⟩]
  exact h
theorem BA.fr {I I' : OId → Nat → Int32} {j : Nat} {B : Bk} (h : BA I j B) (hf : ∀ o, inBk j o → I' o = I o) : BA I' j B := by
  refine ⟨h.1.fr hf, ?_⟩
  rw [hf (4, j, 0) ⟨rfl, by simp⟩, hf (21, j, 0) ⟨rfl, by simp⟩, hf (7, j, 0) ⟨rfl, by simp⟩, hf (22, j, 0) ⟨rfl, by simp⟩, hf (23, j, 0) ⟨rfl, by simp⟩, hf (24, j, 0) ⟨rfl, by simp⟩]
  exact h.2
/-- books j become as books i are -/
def tk1 (I : OId → Nat → Int32) (j i : Nat) : OId → Nat → Int32 := fun o f => if o = (4, j, 0) ∧ f < 8 then I (4, i, 0) f else I o f
def tk2 (I : OId → Nat → Int32) (j i k : Nat) : OId → Nat → Int32 := fun o f => if (o.1 = 10 ∧ o.2.1 = j ∧ o.2.2 < k) ∧ f < 6 then (if f = 5 then bb (I (10, i, o.2.2) 5) else I (10, i, o.2.2) f) else tk1 I j i o f
def tk3 (I : OId → Nat → Int32) (j i n : Nat) : OId → Nat → Int32 := cpR (tk2 I j i n) (21, j, 0) (21, i, 0) 49
def tk4 (I : OId → Nat → Int32) (j i n : Nat) : OId → Nat → Int32 := cpR (cpR (cpR (cpR (tk3 I j i n) (7, j, 0) (7, i, 0) 2) (22, j, 0) (22, i, 0) 2) (23, j, 0) (23, i, 0) 2) (24, j, 0) (24, i, 0) 2
theorem takeB_ok {j i n : Nat} (hR : RF R) (hj : j < 8) (hi : i < 8) (hne : i ≠ j) (hn : I (4, i, 0) 7 = N n) (h7 : n ≤ 7) : evm (d + 2) 53 [aR (4, j, 0), aR (4, i, 0)] (I, M, R, G) = some (.inl none, (tk4 I j i n, M, R, G)) := by
  rw [m53]
  have n4 : ((4, i, 0) : OId) ≠ (4, j, 0) := by simp [hne]
  have n21 : ((21, i, 0) : OId) ≠ (21, j, 0) := by simp [hne]
  obtain ⟨a8, a9, a10, a11, a20⟩ := hR.b hj
  obtain ⟨b8, b9, b10, b11, b20⟩ := hR.b hi
  simp only [s53_0, s53_1, s53_2, s53_5, s53_8, s53_9, s53_10, s53_13, s53_16, s53_17, s53_18, s53_21, s53_24, s53_25, s53_26, s53_29, s53_32, s53_33, s53_34, s53_37, s53_40, s53_41, s53_42, s53_45, s53_48, s53_49, s53_50, s53_53, s53_56, s53_57, s53_58, s53_61, s53_64, s53_65, setI_ne n4, set8, kil_nil]
  have e : (fun (o : OId) (f : Nat) => if o = (4, j, 0) ∧ f < 8 then (match f with | 0 => I (4, i, 0) 0 | 1 => I (4, i, 0) 1 | 2 => I (4, i, 0) 2 | 3 => I (4, i, 0) 3 | 4 => I (4, i, 0) 4 | 5 => I (4, i, 0) 5 | 6 => I (4, i, 0) 6 | _ => I (4, i, 0) 7) else I o f) = tk2 I j i 0 := by
    funext o f
    unfold tk2 tk1
    rw [if_neg (show ¬ ((o.1 = 10 ∧ o.2.1 = j ∧ o.2.2 < 0) ∧ f < 6) from fun q => absurd q.1.2.2 (Nat.not_lt_zero _))]
    by_cases ho : o = (4, j, 0) ∧ f < 8
    · rw [if_pos ho, if_pos ho]
      match f, ho.2 with
      | 0, _ => rfl
      | 1, _ => rfl
      | 2, _ => rfl
      | 3, _ => rfl
      | 4, _ => rfl
      | 5, _ => rfl
      | 6, _ => rfl
      | 7, _ => rfl
    · rw [if_neg ho, if_neg ho]
  rw [e]
  have hcount : ∀ k, tk2 I j i k (4, j, 0) 7 = N n := fun k => by
    unfold tk2 tk1
    rw [if_neg (by simp), if_pos (by simp)]
    exact hn
  have hs : ∀ k, k < n → ev (evm (d + 1)) 53 66 [some (aR (4, j, 0)), some (aR (4, i, 0)), some (aI (N k))] [] [] (tk2 I j i k, M, R, G) = ev (evm (d + 1)) 53 66 [some (aR (4, j, 0)), some (aR (4, i, 0)), some (aI (N (k + 1)))] [] [] (tk2 I j i (k + 1), M, R, G) := by
    intro k hk
    have hcp : cpS (tk2 I j i k) (10, j, k) (10, i, k) = tk2 I j i (k + 1) := by
      funext o f
      obtain ⟨a, b, c⟩ := o
      unfold cpS tk2 tk1
      by_cases ho : (a, b, c) = ((10, j, k) : OId) ∧ f < 6
      · obtain ⟨ho, hf⟩ := ho
        simp only [Prod.mk.injEq] at ho
        obtain ⟨rfl, rfl, rfl⟩ := ho
        simp [hf, hne]
      · rw [if_neg ho]
        have hcc : ((a = 10 ∧ b = j ∧ c < k) ∧ f < 6) = ((a = 10 ∧ b = j ∧ c < k + 1) ∧ f < 6) := by
          refine propext ⟨fun q => ⟨⟨q.1.1, q.1.2.1, by omega⟩, q.2⟩, fun q => ⟨⟨q.1.1, q.1.2.1, ?_⟩, q.2⟩⟩
          rcases Nat.lt_succ_iff_lt_or_eq.mp q.1.2.2 with h5 | h5
          · exact h5
          · exact absurd ⟨by rw [q.1.1, q.1.2.1, h5], q.2⟩ ho
        simp only [hcc]
    rw [s53_66]
    simp only [m53, s53_0, s53_1, s53_2, s53_5, s53_8, s53_9, s53_10, s53_13, s53_16, s53_17, s53_18, s53_21, s53_24, s53_25, s53_26, s53_29, s53_32, s53_33, s53_34, s53_37, s53_40, s53_41, s53_42, s53_45, s53_48, s53_49, s53_50, s53_53, s53_56, s53_57, s53_58, s53_61, s53_64, s53_65, s53_67, s53_68, s53_71, s53_74, s53_75, s53_76, s53_79, s53_80, s53_81, s53_84, s53_87, s53_90, s53_93, s53_94, s53_97, s53_98, s53_99, s53_102, s53_103, s53_105, s53_108, s53_109, s53_112, s53_113, s53_116, s53_119, hcount, N_ge hk (show n < 2147483648 by omega), at_N hR hj (show k < 7 by omega), at_N hR hi (show k < 7 by omega), takeS_ok (show (10, i, k) ≠ ((10, j, k) : OId) by simp [hne]), hcp, if_false, if_true, ck_v, ck_x, Option.toList, List.cons_append, List.nil_append, kil_nil, N_1, o10, o00, exN_0, exN_1, exN_2, exN_3, exN_4, exN_5, Ex]
  refine (iter (f := fun k => ev (evm (d + 1)) 53 66 [some (aR (4, j, 0)), some (aR (4, i, 0)), some (aI (N k))] [] [] (tk2 I j i k, M, R, G)) hs).trans ?_
  have q21 : ∀ S : SS, acp S (21, i, 0) 0 (21, j, 0) 0 49 = some (cpR S.1 (21, j, 0) (21, i, 0) 49, S.2) := fun S => acp_ok (n := 49) rfl rfl rfl rfl n21 (by decide)
  rw [s53_66]
  simp only [m53, s53_0, s53_1, s53_2, s53_5, s53_8, s53_9, s53_10, s53_13, s53_16, s53_17, s53_18, s53_21, s53_24, s53_25, s53_26, s53_29, s53_32, s53_33, s53_34, s53_37, s53_40, s53_41, s53_42, s53_45, s53_48, s53_49, s53_50, s53_53, s53_56, s53_57, s53_58, s53_61, s53_64, s53_65, s53_67, s53_68, s53_71, s53_74, s53_75, s53_76, s53_79, s53_80, s53_81, s53_84, s53_87, s53_90, s53_93, s53_94, s53_97, s53_98, s53_99, s53_102, s53_103, s53_105, s53_108, s53_109, s53_112, s53_113, s53_116, s53_119, hcount, N_ge1 (Nat.le_refl n) (show n < 2147483648 by omega), a10, b10, a11, b11, q21, kA, takeP_ok hR (show j < 9 by omega) (show i < 9 by omega) hne, if_false, if_true, ck_v, ck_x, Option.toList, List.cons_append, List.nil_append, kil_nil, N_1, o10, o00, exN_0, exN_1, exN_2, exN_3, exN_4, exN_5, Ex]
  rfl
theorem tk4_fr {j i n : Nat} {o : OId} (h : ¬ inBk j o) : tk4 I j i n o = I o := by
  funext f
  obtain ⟨a, b, c⟩ := o
  have h1 : ∀ q, q = 4 ∨ q = 21 ∨ q = 7 ∨ q = 22 ∨ q = 23 ∨ q = 24 → (a, b, c) ≠ ((q, j, 0) : OId) := by
    rintro q hq e
    simp only [Prod.mk.injEq] at e
    exact h ⟨e.2.1, by show a = 4 ∨ _; omega⟩
  have h2 : ¬ (a = 10 ∧ b = j) := fun q => h ⟨q.2, by show a = 4 ∨ _; omega⟩
  simp only [tk4, tk3, tk2, tk1, cpR, h1 24 (by simp), h1 23 (by simp), h1 22 (by simp), h1 7 (by simp), h1 21 (by simp), h1 4 (by simp), false_and, if_false]
  rw [if_neg (fun q => h2 ⟨q.1.1, q.1.2.1⟩)]
theorem tk4_ba {j i n : Nat} {B : Bk} (hne : i ≠ j) (h : BA I i B) (hn : n = vn B.1) : BA (tk4 I j i n) j B := by
  subst hn
  obtain ⟨⟨⟨r0, r1, r2⟩, hc, h7, hf, hl, hcm⟩, h3, h4, h5, h6, hm, hp, hz⟩ := h
  have ij : ¬ j = i := fun q => hne q.symm
  have e4 : ∀ f, f < 8 → tk4 I j i (vn B.1) (4, j, 0) f = I (4, i, 0) f := fun f hf => by simp [tk4, tk3, tk2, tk1, cpR, hf]
  have e21 : ∀ f, f < 49 → tk4 I j i (vn B.1) (21, j, 0) f = I (21, i, 0) f := fun f hf => by simp [tk4, tk3, tk2, tk1, cpR, hf, hne]
  have e7 : ∀ f, f < 2 → tk4 I j i (vn B.1) (7, j, 0) f = I (7, i, 0) f := fun f hf => by simp [tk4, tk3, tk2, tk1, cpR, hf, hne]
  have e22 : ∀ f, f < 2 → tk4 I j i (vn B.1) (22, j, 0) f = I (22, i, 0) f := fun f hf => by simp [tk4, tk3, tk2, tk1, cpR, hf, hne]
  have e23 : ∀ f, f < 2 → tk4 I j i (vn B.1) (23, j, 0) f = I (23, i, 0) f := fun f hf => by simp [tk4, tk3, tk2, tk1, cpR, hf, hne]
  have e24 : ∀ f, f < 2 → tk4 I j i (vn B.1) (24, j, 0) f = I (24, i, 0) f := fun f hf => by simp [tk4, tk3, tk2, tk1, cpR, hf, hne]
  have e10 : ∀ k, k < vn B.1 → ∀ f, f < 5 → tk4 I j i (vn B.1) (10, j, k) f = I (10, i, k) f := fun k hk f hf => by
    have h5 : ¬ f = 5 := by omega
    have h6 : f < 6 := by omega
    simp [tk4, tk3, tk2, tk1, cpR, hk, h5, h6]
  have e105 : ∀ k, k < vn B.1 → tk4 I j i (vn B.1) (10, j, k) 5 = bb (I (10, i, k) 5) := fun k hk => by simp [tk4, tk3, tk2, tk1, cpR, hk]
  refine ⟨⟨⟨?_, ?_, ?_⟩, ?_, h7, ?_, ?_, ?_⟩, ?_, ?_, ?_, ?_, ?_, ?_, ?_⟩
  · rw [e4 0 (by decide)]; exact r0
  · rw [e4 1 (by decide)]; exact r1
  · rw [e4 2 (by decide)]; exact r2
  · rw [e4 7 (by decide)]; exact hc
  · intro k hk f hf'
    rw [e10 k hk f hf']; exact hf k hk f hf'
  · intro k hk
    rw [e105 k hk, bb_bb]; exact hl k hk
  · intro a b ha hb
    rw [e21 _ (by omega)]; exact hcm a b ha hb
  · rw [e4 3 (by decide)]; exact h3
  · rw [e4 4 (by decide)]; exact h4
  · rw [e4 5 (by decide)]; exact h5
  · rw [e4 6 (by decide)]; exact h6
  · rw [e7 0 (by decide)]; exact hm
  · intro m hm
    rw [e22 m hm, e23 m hm, e24 m hm]; exact hp m hm
  · intro a b ha hb hab
    rw [e21 _ (by omega)]; exact hz a b ha hb hab
end COPY
