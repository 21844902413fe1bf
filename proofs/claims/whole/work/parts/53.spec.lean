/-! THE METHODS' MEANING: the books whole; the class's other questions -/
/-- books: a view; day, next id, expired, ended; the last plan's number of moves, its rows -/
abbrev Bk : Type := Vw × (Int32 × Int32 × Int32 × Int32) × Int32 × (Nat → Int32)
abbrev bday (B : Bk) : Int32 := B.2.1.1
abbrev bnext (B : Bk) : Int32 := B.2.1.2.1
abbrev bexp (B : Bk) : Int32 := B.2.1.2.2.1
abbrev bend (B : Bk) : Int32 := B.2.1.2.2.2
abbrev bmov (B : Bk) : Int32 := B.2.2.1
abbrev bpl (B : Bk) (k : Nat) : Int32 := B.2.2.2 k
def BA (I : OId → Nat → Int32) (j : Nat) (B : Bk) : Prop := BV I j B.1 ∧ I (4, j, 0) 3 = bday B ∧ I (4, j, 0) 4 + 1 = bnext B ∧ I (4, j, 0) 5 = bexp B ∧ I (4, j, 0) 6 = bend B ∧ I (7, j, 0) 0 = bmov B ∧ (∀ m, m < 2 → I (22, j, 0) m = bpl B (3 * m) ∧ I (23, j, 0) m = bpl B (3 * m + 1) ∧ I (24, j, 0) m = bpl B (3 * m + 2)) ∧ ∀ a b, a < 7 → b < 7 → vn B.1 ≤ a ∨ vn B.1 ≤ b → I (21, j, 0) (7 * a + b) = 0
def MW (r : Nat → Int32) (B : Bk) : Prop := (r 0 = B.1.1.1 ∧ r 1 = B.1.1.2.1 ∧ r 2 = B.1.1.2.2) ∧ (r 3 = bday B ∧ r 4 = bnext B ∧ r 5 = bexp B ∧ r 6 = bend B) ∧ r 7 = N (vn B.1) ∧ vn B.1 ≤ 7 ∧ r 8 = bmov B ∧ (∀ m, m < 2 → N m < bmov B → r (9 + 3 * m) = bpl B (3 * m) ∧ r (10 + 3 * m) = bpl B (3 * m + 1) ∧ r (11 + 3 * m) = bpl B (3 * m + 2)) ∧
  (∀ k, k < vn B.1 → ∀ f, f < 5 → r (15 + 6 * k + f) = vf B.1 k f) ∧ (∀ k, k < vn B.1 → r (15 + 6 * k + 5) = if vl B.1 k = true then 1 else 0) ∧ ∀ a b, a < vn B.1 → b < vn B.1 → r (57 + 7 * a + b) = vc B.1 a b
def WB (t : Nat) (B : Bk) : Prop := WV B.1 ∧ (∃ z, z ≤ t ∧ bnext B = N z ∧ ∀ k, k < vn B.1 → ∃ i, i < z ∧ vf B.1 k 0 = N i) ∧ (∃ x, x ≤ 999 ∧ bday B = N x) ∧ (bmov B = -1 ∨ ∃ m, m ≤ 2 ∧ bmov B = N m)
theorem MW.mv {I : OId → Nat → Int32} {B : Bk} (h : MW (I (35, 0, 0)) B) : MV I B.1 := ⟨h.1, h.2.2.1, h.2.2.2.1, h.2.2.2.2.2.2.1, h.2.2.2.2.2.2.2.1, h.2.2.2.2.2.2.2.2⟩
/-- the lowest and the highest channel of the first k stations that are licensed -/
def lowc (V : Vw) : Nat → Int32
  | 0 => 8
  | k + 1 => if vl V k = true then (if vf V k 3 < lowc V k then vf V k 3 else lowc V k) else lowc V k
def hghc (V : Vw) : Nat → Int32
  | 0 => -1
  | k + 1 => if vl V k = true then (if hghc V k < vf V k 3 then vf V k 3 else hghc V k) else hghc V k
def usd (V : Vw) : Int32 := if hghc V (vn V) < 0 then 0 else hghc V (vn V) - lowc V (vn V) + 1
/-- does station k spoil the order? -/
def bad (V : Vw) (day : Int32) (k : Nat) : Bool := decide (¬ day < vf V k 4) || decide (fs (fun i => cfv V i k) k < k)
section ASK2
variable {d : Nat} {I : OId → Nat → Int32} {M R : OId → Nat → AV} {G : SG} {V : Vw} {B : Bk} {t : Nat}
theorem conflictsAt_ok {x y c : Int32} (hR : RF R) (h : BV I 0 V) : evm (d + 3) 129 [aR (11, 0, 0), aI x, aI y, aI c] (I, M, R, G) = if (rg x 0 99 ∧ rg y 0 99) ∧ rg c 0 7 then some (.inl (some (aI (cnf V x y c))), (I, M, R, G)) else Ex 0 (I, M, R, G) := by
  by_cases h1 : rg x 0 99 ∧ rg y 0 99
  · by_cases h2 : rg c 0 7
    · rw [if_pos ⟨h1, h2⟩]
      simp only [m129, s129_0, s129_1, s129_2, s129_5, s129_6, s129_9, s129_10, s129_13, s129_14, s129_15, s129_16, s129_19, checkPoint_ok, checkChannel_ok, if_pos h1, if_pos h2, if_false, if_true, ck_v, ck_x, Option.toList, List.cons_append, List.nil_append, kil_nil, N_1, o10, o00, exN_0, exN_1, exN_2, exN_3, exN_4, exN_5, Ex, hR.o.1, countConflicts_ok hR (show 0 < 8 by decide) h]
    · rw [if_neg (fun q => h2 q.2)]
      simp only [m129, s129_0, s129_1, s129_2, s129_5, s129_6, s129_9, s129_10, s129_13, s129_14, s129_15, s129_16, s129_19, checkPoint_ok, checkChannel_ok, if_pos h1, if_neg h2, if_false, if_true, ck_v, ck_x, Option.toList, List.cons_append, List.nil_append, kil_nil, N_1, o10, o00, exN_0, exN_1, exN_2, exN_3, exN_4, exN_5, Ex]
  · rw [if_neg (fun q => h1 q.1)]
    simp only [m129, s129_0, s129_1, s129_2, s129_5, s129_6, s129_9, s129_10, s129_13, s129_14, s129_15, s129_16, s129_19, checkPoint_ok, if_neg h1, if_false, if_true, ck_v, ck_x, Option.toList, List.cons_append, List.nil_append, kil_nil, N_1, o10, o00, exN_0, exN_1, exN_2, exN_3, exN_4, exN_5, Ex]
theorem disturbanceAt_ok {x y c : Int32} (hR : RF R) (h : BV I 0 V) : evm (d + 3) 132 [aR (11, 0, 0), aI x, aI y, aI c] (I, M, R, G) = if (rg x 0 99 ∧ rg y 0 99) ∧ rg c 0 7 then some (.inl (some (aI (dst V x y c (-1)))), (I, M, R, G)) else Ex 0 (I, M, R, G) := by
  by_cases h1 : rg x 0 99 ∧ rg y 0 99
  · by_cases h2 : rg c 0 7
    · rw [if_pos ⟨h1, h2⟩]
      simp only [m132, s132_0, s132_1, s132_2, s132_5, s132_6, s132_9, s132_10, s132_13, s132_14, s132_15, s132_16, s132_17, s132_20, checkPoint_ok, checkChannel_ok, if_pos h1, if_pos h2, if_false, if_true, ck_v, ck_x, Option.toList, List.cons_append, List.nil_append, kil_nil, N_1, o10, o00, exN_0, exN_1, exN_2, exN_3, exN_4, exN_5, Ex, hR.o.1, disturbanceV hR (show 0 < 8 by decide) h]
    · rw [if_neg (fun q => h2 q.2)]
      simp only [m132, s132_0, s132_1, s132_2, s132_5, s132_6, s132_9, s132_10, s132_13, s132_14, s132_15, s132_16, s132_17, s132_20, checkPoint_ok, checkChannel_ok, if_pos h1, if_neg h2, if_false, if_true, ck_v, ck_x, Option.toList, List.cons_append, List.nil_append, kil_nil, N_1, o10, o00, exN_0, exN_1, exN_2, exN_3, exN_4, exN_5, Ex]
  · rw [if_neg (fun q => h1 q.1)]
    simp only [m132, s132_0, s132_1, s132_2, s132_5, s132_6, s132_9, s132_10, s132_13, s132_14, s132_15, s132_16, s132_17, s132_20, checkPoint_ok, if_neg h1, if_false, if_true, ck_v, ck_x, Option.toList, List.cons_append, List.nil_append, kil_nil, N_1, o10, o00, exN_0, exN_1, exN_2, exN_3, exN_4, exN_5, Ex]
theorem isConsistent_ok {day : Int32} (hR : RF R) (h : BV I 0 V) (hW : WV V) (hd : I (4, 0, 0) 3 = day) : evm (d + 6) 22 [aR (11, 0, 0)] (I, M, R, G) = some (.inl (some (aI (if fs (bad V day) (vn V) < vn V then 0 else 1))), (I, M, R, G)) := by
  rw [m22]
  have h7 := h.2.2.1
  simp only [s22_0, s22_1, kil_nil]
  have hs : ∀ k, k < vn V → ev (evm (d + 5)) 22 2 [some (aR (11, 0, 0)), some (aI (N k))] [] [] (I, M, R, G) = if bad V day k = true then some (.inl (some (aI 0)), (I, M, R, G)) else ev (evm (d + 5)) 22 2 [some (aR (11, 0, 0)), some (aI (N (k + 1)))] [] [] (I, M, R, G) := by
    intro k hk
    have e : fs (fun i => decide (mgv V i k < 0)) k = fs (fun i => cfv V i k) k := fs_congr (fun i hi => by
      have e9 := mgv_neg hW (show i < vn V by omega) hk
      simp only [e9, Bool.decide_eq_true])
    rw [s22_2]
    simp only [m22, s22_0, s22_1, s22_3, s22_4, s22_7, s22_10, s22_13, s22_14, s22_17, s22_18, s22_21, s22_24, s22_25, s22_28, s22_31, s22_34, s22_35, s22_38, s22_39, s22_42, s22_45, s22_46, s22_47, s22_50, s22_53, s22_54, hR.o.1, h.2.1, N_ge hk (show vn V < 2147483648 by omega), at_N hR (show 0 < 8 by decide) (h.lt hk), h.fl hk (show 4 < 5 by decide), hd, conflictsBefore_ok hR (show 0 < 8 by decide) h hk, e, if_false, if_true, ck_v, ck_x, Option.toList, List.cons_append, List.nil_append, kil_nil, N_1, o10, o00, exN_0, exN_1, exN_2, exN_3, exN_4, exN_5, Ex, ite_le, true_or, or_true, bad]
    by_cases h1 : day < vf V k 4 <;> by_cases h2 : fs (fun i => cfv V i k) k < k <;> simp [h1, h2]
  refine (iter_fs (f := fun k => ev (evm (d + 5)) 22 2 [some (aR (11, 0, 0)), some (aI (N k))] [] [] (I, M, R, G)) hs).trans ?_
  have hf : ev (evm (d + 5)) 22 2 [some (aR (11, 0, 0)), some (aI (N (vn V)))] [] [] (I, M, R, G) = some (.inl (some (aI 1)), (I, M, R, G)) := by
    rw [s22_2]
    simp only [m22, s22_0, s22_1, s22_3, s22_4, s22_7, s22_10, s22_13, s22_14, s22_17, s22_18, s22_21, s22_24, s22_25, s22_28, s22_31, s22_34, s22_35, s22_38, s22_39, s22_42, s22_45, s22_46, s22_47, s22_50, s22_53, s22_54, hR.o.1, h.2.1, N_ge1 (Nat.le_refl (vn V)) (show vn V < 2147483648 by omega), if_true, or_true]
  rw [hf]
  split <;> rfl
theorem hghc_m (hW : WV V) : ∀ k, k ≤ vn V → hghc V k = -1 ∨ ∃ c, c < 8 ∧ hghc V k = N c
  | 0, _ => Or.inl rfl
  | k + 1, hk => by
    unfold hghc
    split
    · split
      · exact Or.inr (hW.ch (show k < vn V by omega))
      · exact hghc_m hW k (by omega)
    · exact hghc_m hW k (by omega)
theorem usedSpan_ok (hR : RF R) (h : BV I 0 V) (hW : WV V) : evm (d + 2) 51 [aR (11, 0, 0)] (I, M, R, G) = some (.inl (some (aI (usd V))), (I, M, R, G)) := by
  rw [m51]
  have h7 := h.2.2.1
  simp only [s51_0, s51_2, s51_3, s51_4, s51_5, s51_6, kil_nil]
  refine loopJ (n := vn V) (f := fun k (l4 : Option AV) => ev (evm (d + 1)) 51 7 [some (aR (11, 0, 0)), some (aI (lowc V k)), some (aI (hghc V k)), some (aI (N k)), l4] [] [] (I, M, R, G)) (fun k l4 hk => ⟨some (aR (10, 0, k)), ?_⟩) (fun l4 => ?_) none
  · show ev _ 51 7 _ _ _ _ = ev _ 51 7 _ _ _ _
    rw [s51_7, lowc, hghc]
    simp only [m51, s51_0, s51_2, s51_3, s51_4, s51_5, s51_6, s51_8, s51_9, s51_12, s51_15, s51_18, s51_19, s51_22, s51_23, s51_26, s51_28, s51_30, s51_33, s51_36, s51_37, s51_39, s51_42, s51_45, s51_46, s51_47, s51_49, s51_52, s51_55, s51_56, s51_59, s51_62, s51_63, s51_64, s51_67, s51_68, s51_71, s51_72, s51_73, s51_74, s51_75, s51_76, hR.o.1, h.2.1, N_ge hk (show vn V < 2147483648 by omega), at_N hR (show 0 < 8 by decide) (h.lt hk), h.fl hk (show 3 < 5 by decide), h.2.2.2.2.1 k hk, if_false, if_true, ck_v, ck_x, Option.toList, List.cons_append, List.nil_append, kil_nil, N_1, o10, o00, exN_0, exN_1, exN_2, exN_3, exN_4, exN_5, Ex]
    cases vl V k <;> simp
  · show ev _ 51 7 _ _ _ _ = _
    rw [s51_7]
    simp only [m51, s51_0, s51_2, s51_3, s51_4, s51_5, s51_6, s51_8, s51_9, s51_12, s51_15, s51_18, s51_19, s51_22, s51_23, s51_26, s51_28, s51_30, s51_33, s51_36, s51_37, s51_39, s51_42, s51_45, s51_46, s51_47, s51_49, s51_52, s51_55, s51_56, s51_59, s51_62, s51_63, s51_64, s51_67, s51_68, s51_71, s51_72, s51_73, s51_74, s51_75, s51_76, hR.o.1, h.2.1, N_ge1 (Nat.le_refl (vn V)) (show vn V < 2147483648 by omega), if_true, usd]
    rcases hghc_m hW (vn V) (Nat.le_refl _) with e | ⟨c, hc, e⟩
    · rw [e]
      simp
    · rw [e]
      have h1 : ¬ N c = -1 := fun q => by
        have := N_neg (a := c) (by omega)
        rw [q] at this
        exact absurd this (by decide)
      simp [h1, N_neg (a := c) (show c < 2147483648 by omega)]
theorem meanDisturbance_ok (hR : RF R) (h : BV I 0 V) (hW : WV V) : evm (d + 4) 134 [aR (11, 0, 0)] (I, M, R, G) = if sm (licv V) (vn V) = 0 then Ex 5 (I, M, R, G) else some (.inl (some (aF (FP.fdiv (FP.i2f (sdv V)) (FP.i2f (sm (licv V) (vn V)))))), (I, M, R, G)) := by
  obtain ⟨s, hs, e1⟩ := sdv_N hW
  obtain ⟨l, hl, e2⟩ := lic_N (V := V) (n := vn V)
  have h7 := h.2.2.1
  by_cases hz : sm (licv V) (vn V) = 0
  · simp only [m134, s134_0, s134_1, s134_4, s134_7, s134_8, s134_9, s134_12, s134_15, s134_22, s134_23, s134_26, s134_29, s134_30, s134_31, s134_32, s134_33, hR.o.1, licensedV hR (show 0 < 8 by decide) h, hz, if_false, if_true, ck_v, ck_x, Option.toList, List.cons_append, List.nil_append, kil_nil, N_1, o10, o00, exN_0, exN_1, exN_2, exN_3, exN_4, exN_5, Ex]
  · rw [if_neg hz]
    have hl0 : l ≠ 0 := fun q => hz (by rw [e2, q]; rfl)
    obtain ⟨l', rfl⟩ : ∃ l', l = l' + 1 := ⟨l - 1, by omega⟩
    have hm := mean_ok s (by omega) l' (by omega)
    rw [e2] at hz
    simp only [m134, s134_0, s134_1, s134_4, s134_7, s134_8, s134_9, s134_12, s134_15, s134_22, s134_23, s134_26, s134_29, s134_30, s134_31, s134_32, s134_33, hR.o.1, licensedV hR (show 0 < 8 by decide) h, if_neg hz, sumOfDisturbances_ok hR (show 0 < 8 by decide) h, if_false, if_true, ck_v, ck_x, Option.toList, List.cons_append, List.nil_append, kil_nil, N_1, o10, o00, exN_0, exN_1, exN_2, exN_3, exN_4, exN_5, Ex, e1, e2, hm]
theorem stationAt_ok {k : Nat} (hR : RF R) (h : BV I 0 V) (hk : k < vn V) : evm (d + 2) 100 [aR (11, 0, 0), aI (N k)] (I, M, R, G) = some (.inl (some (aI (vf V k 0))), (I, M, R, G)) := by
  have h7 := h.2.2.1
  have hp : ¬ N k < 0 ∧ N k < N (vn V) := ⟨by rw [N_neg (by omega)]; exact fun q => q, by rw [N_lt (by omega) (by omega)]; exact hk⟩
  simp only [m100, s100_0, s100_1, s100_2, s100_5, s100_6, s100_9, s100_10, s100_13, s100_16, checkPosition_ok hR h, if_pos hp, hR.o.1, at_N hR (show 0 < 8 by decide) (h.lt hk), h.fl hk (show 0 < 5 by decide), if_false, if_true, ck_v, ck_x, Option.toList, List.cons_append, List.nil_append, kil_nil, N_1, o10, o00, exN_0, exN_1, exN_2, exN_3, exN_4, exN_5, Ex]
theorem stationAt_no {p : Int32} (hR : RF R) (h : BV I 0 V) (hp : ¬ (¬ p < 0 ∧ p < N (vn V))) : evm (d + 2) 100 [aR (11, 0, 0), aI p] (I, M, R, G) = Ex 4 (I, M, R, G) := by
  simp only [m100, s100_0, s100_1, s100_2, s100_5, s100_6, s100_9, s100_10, s100_13, s100_16, checkPosition_ok hR h, if_neg hp, if_false, if_true, ck_v, ck_x, Option.toList, List.cons_append, List.nil_append, kil_nil, N_1, o10, o00, exN_0, exN_1, exN_2, exN_3, exN_4, exN_5, Ex]
theorem stationByExpiry_ok {p : Int32} {k : Nat} (hR : RF R) (h : BV I 0 V) (hp : ¬ p < 0 ∧ p < N (vn V)) (hk : fs (fun k => decide (erl V k = p)) (vn V) = k) (hkn : k < vn V) : evm (d + 4) 103 [aR (11, 0, 0), aI p] (I, M, R, G) = some (.inl (some (aI (vf V k 0))), (I, M, R, G)) := by
  simp only [m103, s103_0, s103_1, s103_2, s103_5, s103_6, s103_9, s103_10, s103_13, s103_14, s103_17, s103_20, s103_23, checkPosition_ok hR h, if_pos hp, hR.o.1, placeByExpiry_ok hR (show 0 < 8 by decide) h, hk, plc_p hkn, at_N hR (show 0 < 8 by decide) (h.lt hkn), h.fl hkn (show 0 < 5 by decide), if_false, if_true, ck_v, ck_x, Option.toList, List.cons_append, List.nil_append, kil_nil, N_1, o10, o00, exN_0, exN_1, exN_2, exN_3, exN_4, exN_5, Ex]
theorem stationByExpiry_no {p : Int32} (hR : RF R) (h : BV I 0 V) (hp : ¬ (¬ p < 0 ∧ p < N (vn V))) : evm (d + 4) 103 [aR (11, 0, 0), aI p] (I, M, R, G) = Ex 4 (I, M, R, G) := by
  simp only [m103, s103_0, s103_1, s103_2, s103_5, s103_6, s103_9, s103_10, s103_13, s103_14, s103_17, s103_20, s103_23, checkPosition_ok hR h, if_neg hp, if_false, if_true, ck_v, ck_x, Option.toList, List.cons_append, List.nil_append, kil_nil, N_1, o10, o00, exN_0, exN_1, exN_2, exN_3, exN_4, exN_5, Ex]
theorem moveCount_ok (hR : RF R) (h : BA I 0 B) : evm (d + 1) 162 [aR (11, 0, 0)] (I, M, R, G) = if bmov B = -1 then Ex 3 (I, M, R, G) else some (.inl (some (aI (bmov B))), (I, M, R, G)) := by
  simp only [m162, s162_0, s162_1, s162_4, s162_7, s162_10, s162_11, s162_14, s162_17, s162_25, s162_26, s162_29, s162_32, s162_35, hR.o.1, (hR.b (show 0 < 8 by decide)).2.2.2.1, h.2.2.2.2.2.1, if_false, if_true, ck_v, ck_x, Option.toList, List.cons_append, List.nil_append, kil_nil, N_1, o10, o00, exN_0, exN_1, exN_2, exN_3, exN_4, exN_5, Ex]
theorem checkMove_ok {m : Int32} (hR : RF R) (h : BA I 0 B) : evm (d + 1) 165 [aR (11, 0, 0), aI m] (I, M, R, G) = if ¬ m < 0 ∧ m < bmov B then some (.inl none, (I, M, R, G)) else Ex 3 (I, M, R, G) := by
  simp only [m165, s165_0, s165_1, s165_4, s165_5, s165_6, s165_9, s165_12, s165_15, s165_18, s165_21, s165_29, hR.o.1, (hR.b (show 0 < 8 by decide)).2.2.2.1, h.2.2.2.2.2.1, if_false, if_true, ck_v, ck_x, Option.toList, List.cons_append, List.nil_append, kil_nil, N_1, o10, o00, exN_0, exN_1, exN_2, exN_3, exN_4, exN_5, Ex, ite_le]
  by_cases h1 : m < 0 <;> by_cases h2 : m < bmov B <;> simp [h1, h2]
theorem movedStation_ok {m : Nat} (hR : RF R) (h : BA I 0 B) (hm : m < 2) (hmb : N m < bmov B) : evm (d + 2) 164 [aR (11, 0, 0), aI (N m)] (I, M, R, G) = some (.inl (some (aI (bpl B (3 * m)))), (I, M, R, G)) := by
  have hp : ¬ N m < 0 ∧ N m < bmov B := ⟨by rw [N_neg (by omega)]; exact fun q => q, hmb⟩
  have hk : kOf (22, 0, 0) = .inr (.int, 2) := rfl
  simp only [m164, s164_0, s164_1, s164_2, s164_5, s164_6, s164_9, s164_12, s164_15, s164_16, s164_19, checkMove_ok hR h, if_pos hp, hR.o.1, (hR.b (show 0 < 8 by decide)).2.2.2.1, (hR.2.2.1 0 (by decide)).1, get_N (S := (I, M, R, G)) hk (fun _ => rfl) hm (by decide), (h.2.2.2.2.2.2.1 m hm).1, if_false, if_true, ck_v, ck_x, Option.toList, List.cons_append, List.nil_append, kil_nil, N_1, o10, o00, exN_0, exN_1, exN_2, exN_3, exN_4, exN_5, Ex]
theorem movedStation_no {m : Int32} (hR : RF R) (h : BA I 0 B) (hp : ¬ (¬ m < 0 ∧ m < bmov B)) : evm (d + 2) 164 [aR (11, 0, 0), aI m] (I, M, R, G) = Ex 3 (I, M, R, G) := by
  simp only [m164, s164_0, s164_1, s164_2, s164_5, s164_6, s164_9, s164_12, s164_15, s164_16, s164_19, checkMove_ok hR h, if_neg hp, if_false, if_true, ck_v, ck_x, Option.toList, List.cons_append, List.nil_append, kil_nil, N_1, o10, o00, exN_0, exN_1, exN_2, exN_3, exN_4, exN_5, Ex]
theorem movedFrom_ok {m : Nat} (hR : RF R) (h : BA I 0 B) (hm : m < 2) (hmb : N m < bmov B) : evm (d + 2) 167 [aR (11, 0, 0), aI (N m)] (I, M, R, G) = some (.inl (some (aI (bpl B (3 * m + 1)))), (I, M, R, G)) := by
  have hp : ¬ N m < 0 ∧ N m < bmov B := ⟨by rw [N_neg (by omega)]; exact fun q => q, hmb⟩
  have hk : kOf (23, 0, 0) = .inr (.int, 2) := rfl
  simp only [m167, s167_0, s167_1, s167_2, s167_5, s167_6, s167_9, s167_12, s167_15, s167_16, s167_19, checkMove_ok hR h, if_pos hp, hR.o.1, (hR.b (show 0 < 8 by decide)).2.2.2.1, (hR.2.2.1 0 (by decide)).2.1, get_N (S := (I, M, R, G)) hk (fun _ => rfl) hm (by decide), (h.2.2.2.2.2.2.1 m hm).2.1, if_false, if_true, ck_v, ck_x, Option.toList, List.cons_append, List.nil_append, kil_nil, N_1, o10, o00, exN_0, exN_1, exN_2, exN_3, exN_4, exN_5, Ex]
theorem movedFrom_no {m : Int32} (hR : RF R) (h : BA I 0 B) (hp : ¬ (¬ m < 0 ∧ m < bmov B)) : evm (d + 2) 167 [aR (11, 0, 0), aI m] (I, M, R, G) = Ex 3 (I, M, R, G) := by
  simp only [m167, s167_0, s167_1, s167_2, s167_5, s167_6, s167_9, s167_12, s167_15, s167_16, s167_19, checkMove_ok hR h, if_neg hp, if_false, if_true, ck_v, ck_x, Option.toList, List.cons_append, List.nil_append, kil_nil, N_1, o10, o00, exN_0, exN_1, exN_2, exN_3, exN_4, exN_5, Ex]
theorem movedTo_ok {m : Nat} (hR : RF R) (h : BA I 0 B) (hm : m < 2) (hmb : N m < bmov B) : evm (d + 2) 169 [aR (11, 0, 0), aI (N m)] (I, M, R, G) = some (.inl (some (aI (bpl B (3 * m + 2)))), (I, M, R, G)) := by
  have hp : ¬ N m < 0 ∧ N m < bmov B := ⟨by rw [N_neg (by omega)]; exact fun q => q, hmb⟩
  have hk : kOf (24, 0, 0) = .inr (.int, 2) := rfl
  simp only [m169, s169_0, s169_1, s169_2, s169_5, s169_6, s169_9, s169_12, s169_15, s169_16, s169_19, checkMove_ok hR h, if_pos hp, hR.o.1, (hR.b (show 0 < 8 by decide)).2.2.2.1, (hR.2.2.1 0 (by decide)).2.2, get_N (S := (I, M, R, G)) hk (fun _ => rfl) hm (by decide), (h.2.2.2.2.2.2.1 m hm).2.2, if_false, if_true, ck_v, ck_x, Option.toList, List.cons_append, List.nil_append, kil_nil, N_1, o10, o00, exN_0, exN_1, exN_2, exN_3, exN_4, exN_5, Ex]
theorem movedTo_no {m : Int32} (hR : RF R) (h : BA I 0 B) (hp : ¬ (¬ m < 0 ∧ m < bmov B)) : evm (d + 2) 169 [aR (11, 0, 0), aI m] (I, M, R, G) = Ex 3 (I, M, R, G) := by
  simp only [m169, s169_0, s169_1, s169_2, s169_5, s169_6, s169_9, s169_12, s169_15, s169_16, s169_19, checkMove_ok hR h, if_neg hp, if_false, if_true, ck_v, ck_x, Option.toList, List.cons_append, List.nil_append, kil_nil, N_1, o10, o00, exN_0, exN_1, exN_2, exN_3, exN_4, exN_5, Ex]
end ASK2
