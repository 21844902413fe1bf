/-! THE METHODS' MEANING: the model takes a station out, ends trials, makes moves -/
def t1 (I : OId → Nat → Int32) (p a b : Nat) : OId → Nat → Int32 := fun o f => if o = (35, 0, 0) ∧ (15 + 6 * p ≤ f ∧ f < a ∨ 57 + 7 * p ≤ f ∧ f < b) then I o (if f < 57 then f + 6 else f + 7) else I o f
def t2 (I : OId → Nat → Int32) (p n k j : Nat) : OId → Nat → Int32 := fun o f => if o = (35, 0, 0) ∧ 57 ≤ f ∧ p ≤ (f - 57) % 7 ∧ (f - 57) % 7 < n ∧ ((f - 57) / 7 < k ∨ (f - 57) / 7 = k ∧ (f - 57) % 7 < j) then I o (f + 1) else I o f
section TAKEOUT
variable {d : Nat} {I I' : OId → Nat → Int32} {M R : OId → Nat → AV} {G : SG} {B B' : Bk}
theorem t1_ne {p a b : Nat} {o : OId} (h : o ≠ (35, 0, 0)) : t1 I p a b o = I o := by
  funext f
  unfold t1
  rw [if_neg (fun q => h q.1)]
theorem t2_ne {p n k j : Nat} {o : OId} (h : o ≠ (35, 0, 0)) : t2 I p n k j o = I o := by
  funext f
  unfold t2
  rw [if_neg (fun q => h q.1)]
theorem t1_0 {p : Nat} : t1 I p (15 + 6 * p) (57 + 7 * p) = I := by
  funext o f
  unfold t1
  rw [if_neg (by omega)]
theorem t1_lo {p a b f : Nat} (h : f < 15) : t1 I p a b (35, 0, 0) f = I (35, 0, 0) f := by
  unfold t1
  rw [if_neg (by omega)]
theorem t1_a {p k g b : Nat} (hp : p ≤ k) (hk : k < 6) (hg : g < 6) : setI (t1 I p (15 + 6 * k + g) b) (35, 0, 0) (15 + 6 * k + g) (t1 I p (15 + 6 * k + g) b (35, 0, 0) (15 + 6 * (k + 1) + g)) = t1 I p (15 + 6 * k + (g + 1)) b := by
  have e : t1 I p (15 + 6 * k + g) b (35, 0, 0) (15 + 6 * (k + 1) + g) = I (35, 0, 0) (15 + 6 * k + g + 6) := by
    unfold t1
    rw [if_neg (by omega), show 15 + 6 * (k + 1) + g = 15 + 6 * k + g + 6 by omega]
  rw [e]
  funext o f
  by_cases ho : o = (35, 0, 0)
  · subst ho
    rw [setI_at]
    unfold t1
    by_cases hf : f = 15 + 6 * k + g
    · rw [if_pos hf, if_pos ⟨rfl, Or.inl (by omega)⟩, if_pos (by omega), hf]
    · rw [if_neg hf]
      by_cases hq : 15 + 6 * p ≤ f ∧ f < 15 + 6 * k + g ∨ 57 + 7 * p ≤ f ∧ f < b
      · rw [if_pos ⟨rfl, hq⟩]
        exact (if_pos ⟨rfl, by omega⟩).symm
      · rw [if_neg (fun q => hq q.2)]
        exact (if_neg (fun q => hq (by omega))).symm
  · rw [setI_ne ho, t1_ne ho, t1_ne ho]
theorem t1_b {p k j a : Nat} (hp : p ≤ k) (hk : k < 6) (hj : j < 7) (ha : a ≤ 57) : setI (t1 I p a (57 + 7 * k + j)) (35, 0, 0) (57 + 7 * k + j) (t1 I p a (57 + 7 * k + j) (35, 0, 0) (57 + 7 * k + j + 7)) = t1 I p a (57 + 7 * k + (j + 1)) := by
  have e : t1 I p a (57 + 7 * k + j) (35, 0, 0) (57 + 7 * k + j + 7) = I (35, 0, 0) (57 + 7 * k + j + 7) := by
    unfold t1
    rw [if_neg (by omega)]
  rw [e]
  funext o f
  by_cases ho : o = (35, 0, 0)
  · subst ho
    rw [setI_at]
    unfold t1
    by_cases hf : f = 57 + 7 * k + j
    · rw [if_pos hf, if_pos ⟨rfl, Or.inr (by omega)⟩, if_neg (by omega), hf]
    · rw [if_neg hf]
      by_cases hq : 15 + 6 * p ≤ f ∧ f < a ∨ 57 + 7 * p ≤ f ∧ f < 57 + 7 * k + j
      · rw [if_pos ⟨rfl, hq⟩]
        exact (if_pos ⟨rfl, by omega⟩).symm
      · rw [if_neg (fun q => hq q.2)]
        exact (if_neg (fun q => hq (by omega))).symm
  · rw [setI_ne ho, t1_ne ho, t1_ne ho]
theorem t2_0 {p n : Nat} : t2 I p n 0 p = I := by
  funext o f
  unfold t2
  rw [if_neg (by omega)]
theorem t2_lo {p n k j f : Nat} (h : f < 57) : t2 I p n k j (35, 0, 0) f = I (35, 0, 0) f := by
  unfold t2
  rw [if_neg (by omega)]
theorem t2_r {p n k : Nat} : t2 I p n k n = t2 I p n (k + 1) p := by
  funext o f
  unfold t2
  by_cases hq : o = (35, 0, 0) ∧ 57 ≤ f ∧ p ≤ (f - 57) % 7 ∧ (f - 57) % 7 < n ∧ ((f - 57) / 7 < k ∨ (f - 57) / 7 = k ∧ (f - 57) % 7 < n)
  · rw [if_pos hq, if_pos ⟨hq.1, hq.2.1, hq.2.2.1, hq.2.2.2.1, by omega⟩]
  · rw [if_neg hq, if_neg (fun q => hq ⟨q.1, q.2.1, q.2.2.1, q.2.2.2.1, by omega⟩)]
theorem t2_s {p n k j : Nat} (hp : p ≤ j) (hj : j < n) (hn : n < 7) (hk : k < 7) : setI (t2 I p n k j) (35, 0, 0) (57 + 7 * k + j) (t2 I p n k j (35, 0, 0) (57 + 7 * k + j + 1)) = t2 I p n k (j + 1) := by
  have e : t2 I p n k j (35, 0, 0) (57 + 7 * k + j + 1) = I (35, 0, 0) (57 + 7 * k + j + 1) := by
    unfold t2
    rw [if_neg (by omega)]
  rw [e]
  funext o f
  by_cases ho : o = (35, 0, 0)
  · subst ho
    rw [setI_at]
    unfold t2
    by_cases hf : f = 57 + 7 * k + j
    · rw [if_pos hf, if_pos ⟨rfl, by omega, by omega, by omega, by omega⟩, hf]
    · rw [if_neg hf]
      by_cases hq : 57 ≤ f ∧ p ≤ (f - 57) % 7 ∧ (f - 57) % 7 < n ∧ ((f - 57) / 7 < k ∨ (f - 57) / 7 = k ∧ (f - 57) % 7 < j)
      · rw [if_pos ⟨rfl, hq⟩, if_pos ⟨rfl, hq.1, hq.2.1, hq.2.2.1, by omega⟩]
      · rw [if_neg (fun q => hq q.2), if_neg (fun q => hq ⟨q.2.1, q.2.2.1, q.2.2.2.1, by omega⟩)]
  · rw [setI_ne ho, t2_ne ho, t2_ne ho]
theorem takesOut_ok {p : Nat} (hR : RF R) (h : MW (I (35, 0, 0)) B) (hp : p < vn B.1) : ∃ I', evm (d + 2) 249 [aR (12, 0, 0), aI (N p)] (I, M, R, G) = some (.inl none, (I', M, R, G)) ∧ MW (I' (35, 0, 0)) (remB B p) ∧ ∀ o, o ≠ (35, 0, 0) → I' o = I o := by
  have h7 : vn B.1 ≤ 7 := h.2.2.2.1
  obtain ⟨n, hn⟩ : ∃ n, vn B.1 = n + 1 := ⟨vn B.1 - 1, by omega⟩
  obtain ⟨J, hJ⟩ : ∃ J, J = setI I (35, 0, 0) 7 (N n) := ⟨_, rfl⟩
  have kw7 : ∀ r, kIw (35, 0, 0) 7 r = r := fun r => knw (i := 7) (by decide)
  have hJ7 : J (35, 0, 0) 7 = N n := by rw [hJ, setI_at, if_pos rfl]
  have hJx : ∀ f, f ≠ 7 → J (35, 0, 0) f = I (35, 0, 0) f := fun f hf => by rw [hJ, setI_at, if_neg hf]
  have hA : ∀ k, p ≤ k → k < n → ∀ g, g < 6 → ev (evm (d + 1)) 249 26 [some (aR (12, 0, 0)), some (aI (N p)), some (aI (N k)), some (aI (N g))] [] [] (t1 J p (15 + 6 * k + g) (57 + 7 * k), M, R, G) = ev (evm (d + 1)) 249 26 [some (aR (12, 0, 0)), some (aI (N p)), some (aI (N k)), some (aI (N (g + 1)))] [] [] (t1 J p (15 + 6 * k + (g + 1)) (57 + 7 * k), M, R, G) := by
    intro k h1 h2 g hg
    have e6 : ((6 : Int32) ≤ N g) = False := N_ge (a := g) (b := 6) hg (by decide)
    rw [s249_26]
    simp only [m249, s249_0, s249_1, s249_4, s249_6, s249_7, s249_8, s249_9, s249_10, s249_11, s249_12, s249_14, s249_15, s249_18, s249_20, s249_21, s249_24, s249_25, s249_27, s249_29, s249_32, s249_33, s249_34, s249_35, s249_36, s249_37, s249_38, s249_39, s249_40, s249_43, s249_46, s249_49, s249_52, s249_53, s249_55, s249_57, s249_60, s249_61, s249_64, s249_66, s249_68, s249_69, s249_70, s249_71, s249_72, s249_73, s249_74, s249_77, s249_79, s249_81, s249_82, s249_83, s249_84, s249_86, s249_87, s249_88, s249_89, s249_90, s249_91, s249_94, s249_97, s249_100, s249_103, s249_104, s249_106, s249_107, s249_110, s249_112, s249_113, s249_116, s249_117, s249_119, s249_120, s249_123, s249_125, s249_126, s249_129, s249_130, s249_133, s249_135, s249_137, s249_138, s249_139, s249_140, s249_141, s249_142, s249_143, s249_146, s249_148, s249_150, s249_151, s249_152, s249_153, s249_154, s249_155, s249_156, s249_157, s249_158, s249_159, s249_162, s249_165, s249_168, s249_171, e6, N_1, field_N hR (show k + 1 < 7 by omega) hg, lays_ok hR (show k < 7 by omega) hg, t1_a h1 (show k < 6 by omega) hg, if_false, if_true, ck_v, ck_x, Option.toList, List.cons_append, List.nil_append, kil_nil, N_1, o10, o00, exN_0, exN_1, exN_2, exN_3, exN_4, exN_5, Ex]
  have hB : ∀ k, p ≤ k → k < n → ∀ j, j < 7 → ev (evm (d + 1)) 249 54 [some (aR (12, 0, 0)), some (aI (N p)), some (aI (N k)), some (aI (N j))] [] [] (t1 J p (15 + 6 * (k + 1)) (57 + 7 * k + j), M, R, G) = ev (evm (d + 1)) 249 54 [some (aR (12, 0, 0)), some (aI (N p)), some (aI (N k)), some (aI (N (j + 1)))] [] [] (t1 J p (15 + 6 * (k + 1)) (57 + 7 * k + (j + 1)), M, R, G) := by
    intro k h1 h2 j hj
    have e7 : ((7 : Int32) ≤ N j) = False := N_ge (a := j) (b := 7) hj (by decide)
    rw [s249_54]
    simp only [m249, s249_0, s249_1, s249_4, s249_6, s249_7, s249_8, s249_9, s249_10, s249_11, s249_12, s249_14, s249_15, s249_18, s249_20, s249_21, s249_24, s249_25, s249_27, s249_29, s249_32, s249_33, s249_34, s249_35, s249_36, s249_37, s249_38, s249_39, s249_40, s249_43, s249_46, s249_49, s249_52, s249_53, s249_55, s249_57, s249_60, s249_61, s249_64, s249_66, s249_68, s249_69, s249_70, s249_71, s249_72, s249_73, s249_74, s249_77, s249_79, s249_81, s249_82, s249_83, s249_84, s249_86, s249_87, s249_88, s249_89, s249_90, s249_91, s249_94, s249_97, s249_100, s249_103, s249_104, s249_106, s249_107, s249_110, s249_112, s249_113, s249_116, s249_117, s249_119, s249_120, s249_123, s249_125, s249_126, s249_129, s249_130, s249_133, s249_135, s249_137, s249_138, s249_139, s249_140, s249_141, s249_142, s249_143, s249_146, s249_148, s249_150, s249_151, s249_152, s249_153, s249_154, s249_155, s249_156, s249_157, s249_158, s249_159, s249_162, s249_165, s249_168, s249_171, e7, hR.m.1, x57, x577, kn (show 57 + 7 * k + j + 7 < 106 by omega), knw (show 57 + 7 * k + j < 106 by omega), N_cl (show 57 + 7 * k + j + 7 < 2147483648 by omega), N_cl (show 57 + 7 * k + j < 2147483648 by omega), ag35, t1_b h1 (show k < 6 by omega) hj (show 15 + 6 * (k + 1) ≤ 57 by omega), if_false, if_true, ck_v, ck_x, Option.toList, List.cons_append, List.nil_append, kil_nil, N_1, o10, o00, exN_0, exN_1, exN_2, exN_3, exN_4, exN_5, Ex]
  have hC : ∀ k, p ≤ k → k < n → ∀ l3, ev (evm (d + 1)) 249 13 [some (aR (12, 0, 0)), some (aI (N p)), some (aI (N k)), l3] [] [] (t1 J p (15 + 6 * k) (57 + 7 * k), M, R, G) = ev (evm (d + 1)) 249 13 [some (aR (12, 0, 0)), some (aI (N p)), some (aI (N (k + 1))), some (aI (N 7))] [] [] (t1 J p (15 + 6 * (k + 1)) (57 + 7 * (k + 1)), M, R, G) := by
    intro k h1 h2 l3
    rw [s249_13]
    simp only [m249, s249_0, s249_1, s249_4, s249_6, s249_7, s249_8, s249_9, s249_10, s249_11, s249_12, s249_14, s249_15, s249_18, s249_20, s249_21, s249_24, s249_25, s249_27, s249_29, s249_32, s249_33, s249_34, s249_35, s249_36, s249_37, s249_38, s249_39, s249_40, s249_43, s249_46, s249_49, s249_52, s249_53, s249_55, s249_57, s249_60, s249_61, s249_64, s249_66, s249_68, s249_69, s249_70, s249_71, s249_72, s249_73, s249_74, s249_77, s249_79, s249_81, s249_82, s249_83, s249_84, s249_86, s249_87, s249_88, s249_89, s249_90, s249_91, s249_94, s249_97, s249_100, s249_103, s249_104, s249_106, s249_107, s249_110, s249_112, s249_113, s249_116, s249_117, s249_119, s249_120, s249_123, s249_125, s249_126, s249_129, s249_130, s249_133, s249_135, s249_137, s249_138, s249_139, s249_140, s249_141, s249_142, s249_143, s249_146, s249_148, s249_150, s249_151, s249_152, s249_153, s249_154, s249_155, s249_156, s249_157, s249_158, s249_159, s249_162, s249_165, s249_168, s249_171, hR.m.1, kn7, cl7, ag35, t1_lo (show 7 < 15 by decide), hJ7, N_ge h2 (show n < 2147483648 by omega), if_false, if_true, ck_v, ck_x, Option.toList, List.cons_append, List.nil_append, kil_nil, N_1, o10, o00, exN_0, exN_1, exN_2, exN_3, exN_4, exN_5, Ex]
    refine (iter (f := fun g => ev (evm (d + 1)) 249 26 [some (aR (12, 0, 0)), some (aI (N p)), some (aI (N k)), some (aI (N g))] [] [] (t1 J p (15 + 6 * k + g) (57 + 7 * k), M, R, G)) (hA k h1 h2)).trans ?_
    have e6 : ((6 : Int32) ≤ N 6) = True := N_ge1 (a := 6) (b := 6) (Nat.le_refl _) (by decide)
    rw [s249_26]
    simp only [m249, s249_0, s249_1, s249_4, s249_6, s249_7, s249_8, s249_9, s249_10, s249_11, s249_12, s249_14, s249_15, s249_18, s249_20, s249_21, s249_24, s249_25, s249_27, s249_29, s249_32, s249_33, s249_34, s249_35, s249_36, s249_37, s249_38, s249_39, s249_40, s249_43, s249_46, s249_49, s249_52, s249_53, s249_55, s249_57, s249_60, s249_61, s249_64, s249_66, s249_68, s249_69, s249_70, s249_71, s249_72, s249_73, s249_74, s249_77, s249_79, s249_81, s249_82, s249_83, s249_84, s249_86, s249_87, s249_88, s249_89, s249_90, s249_91, s249_94, s249_97, s249_100, s249_103, s249_104, s249_106, s249_107, s249_110, s249_112, s249_113, s249_116, s249_117, s249_119, s249_120, s249_123, s249_125, s249_126, s249_129, s249_130, s249_133, s249_135, s249_137, s249_138, s249_139, s249_140, s249_141, s249_142, s249_143, s249_146, s249_148, s249_150, s249_151, s249_152, s249_153, s249_154, s249_155, s249_156, s249_157, s249_158, s249_159, s249_162, s249_165, s249_168, s249_171, e6, if_false, if_true, ck_v, ck_x, Option.toList, List.cons_append, List.nil_append, kil_nil, N_1, o10, o00, exN_0, exN_1, exN_2, exN_3, exN_4, exN_5, Ex, show 15 + 6 * k + 6 = 15 + 6 * (k + 1) by omega]
    refine (iter (f := fun j => ev (evm (d + 1)) 249 54 [some (aR (12, 0, 0)), some (aI (N p)), some (aI (N k)), some (aI (N j))] [] [] (t1 J p (15 + 6 * (k + 1)) (57 + 7 * k + j), M, R, G)) (hB k h1 h2)).trans ?_
    have e7 : ((7 : Int32) ≤ N 7) = True := N_ge1 (a := 7) (b := 7) (Nat.le_refl _) (by decide)
    rw [s249_54]
    simp only [m249, s249_0, s249_1, s249_4, s249_6, s249_7, s249_8, s249_9, s249_10, s249_11, s249_12, s249_14, s249_15, s249_18, s249_20, s249_21, s249_24, s249_25, s249_27, s249_29, s249_32, s249_33, s249_34, s249_35, s249_36, s249_37, s249_38, s249_39, s249_40, s249_43, s249_46, s249_49, s249_52, s249_53, s249_55, s249_57, s249_60, s249_61, s249_64, s249_66, s249_68, s249_69, s249_70, s249_71, s249_72, s249_73, s249_74, s249_77, s249_79, s249_81, s249_82, s249_83, s249_84, s249_86, s249_87, s249_88, s249_89, s249_90, s249_91, s249_94, s249_97, s249_100, s249_103, s249_104, s249_106, s249_107, s249_110, s249_112, s249_113, s249_116, s249_117, s249_119, s249_120, s249_123, s249_125, s249_126, s249_129, s249_130, s249_133, s249_135, s249_137, s249_138, s249_139, s249_140, s249_141, s249_142, s249_143, s249_146, s249_148, s249_150, s249_151, s249_152, s249_153, s249_154, s249_155, s249_156, s249_157, s249_158, s249_159, s249_162, s249_165, s249_168, s249_171, e7, if_false, if_true, ck_v, ck_x, Option.toList, List.cons_append, List.nil_append, kil_nil, N_1, o10, o00, exN_0, exN_1, exN_2, exN_3, exN_4, exN_5, Ex, show 57 + 7 * k + 7 = 57 + 7 * (k + 1) by omega]
  have hD : ∀ r k, k + r = n → p ≤ k → ∀ l3, ∃ l3', ev (evm (d + 1)) 249 13 [some (aR (12, 0, 0)), some (aI (N p)), some (aI (N k)), l3] [] [] (t1 J p (15 + 6 * k) (57 + 7 * k), M, R, G) = ev (evm (d + 1)) 249 13 [some (aR (12, 0, 0)), some (aI (N p)), some (aI (N n)), l3'] [] [] (t1 J p (15 + 6 * n) (57 + 7 * n), M, R, G) := by
    intro r
    induction r with
    | zero =>
      intro k hk _ l3
      have : k = n := by omega
      subst this
      exact ⟨l3, rfl⟩
    | succ r ih =>
      intro k hk h1 l3
      rw [hC k h1 (by omega) l3]
      exact ih (k + 1) (by omega) (by omega) _
  obtain ⟨L, hL⟩ : ∃ L, L = t1 J p (15 + 6 * n) (57 + 7 * n) := ⟨_, rfl⟩
  have hL7 : L (35, 0, 0) 7 = N n := by rw [hL, t1_lo (by decide)]; exact hJ7
  have hE : ∀ k, k < n → ∀ j, p ≤ j → j < n → ev (evm (d + 1)) 249 118 [some (aR (12, 0, 0)), some (aI (N p)), some (aI (N k)), some (aI (N j))] [] [] (t2 L p n k j, M, R, G) = ev (evm (d + 1)) 249 118 [some (aR (12, 0, 0)), some (aI (N p)), some (aI (N k)), some (aI (N (j + 1)))] [] [] (t2 L p n k (j + 1), M, R, G) := by
    intro k hk j h1 h2
    have q7 : t2 L p n k j (35, 0, 0) 7 = N n := by rw [t2_lo (by decide)]; exact hL7
    rw [s249_118]
    simp only [m249, s249_0, s249_1, s249_4, s249_6, s249_7, s249_8, s249_9, s249_10, s249_11, s249_12, s249_14, s249_15, s249_18, s249_20, s249_21, s249_24, s249_25, s249_27, s249_29, s249_32, s249_33, s249_34, s249_35, s249_36, s249_37, s249_38, s249_39, s249_40, s249_43, s249_46, s249_49, s249_52, s249_53, s249_55, s249_57, s249_60, s249_61, s249_64, s249_66, s249_68, s249_69, s249_70, s249_71, s249_72, s249_73, s249_74, s249_77, s249_79, s249_81, s249_82, s249_83, s249_84, s249_86, s249_87, s249_88, s249_89, s249_90, s249_91, s249_94, s249_97, s249_100, s249_103, s249_104, s249_106, s249_107, s249_110, s249_112, s249_113, s249_116, s249_117, s249_119, s249_120, s249_123, s249_125, s249_126, s249_129, s249_130, s249_133, s249_135, s249_137, s249_138, s249_139, s249_140, s249_141, s249_142, s249_143, s249_146, s249_148, s249_150, s249_151, s249_152, s249_153, s249_154, s249_155, s249_156, s249_157, s249_158, s249_159, s249_162, s249_165, s249_168, s249_171, hR.m.1, kn7, cl7, ag35, q7, N_ge h2 (show n < 2147483648 by omega), x57, N_1, kn (show 57 + 7 * k + j + 1 < 106 by omega), knw (show 57 + 7 * k + j < 106 by omega), N_cl (show 57 + 7 * k + j + 1 < 2147483648 by omega), N_cl (show 57 + 7 * k + j < 2147483648 by omega), t2_s h1 h2 (show n < 7 by omega) (show k < 7 by omega), if_false, if_true, ck_v, ck_x, Option.toList, List.cons_append, List.nil_append, kil_nil, N_1, o10, o00, exN_0, exN_1, exN_2, exN_3, exN_4, exN_5, Ex]
  have hF : ∀ k (l3 : Option AV), k < n → ∃ l3', ev (evm (d + 1)) 249 105 [some (aR (12, 0, 0)), some (aI (N p)), some (aI (N k)), l3] [] [] (t2 L p n k p, M, R, G) = ev (evm (d + 1)) 249 105 [some (aR (12, 0, 0)), some (aI (N p)), some (aI (N (k + 1))), l3'] [] [] (t2 L p n (k + 1) p, M, R, G) := by
    intro k l3 hk
    have q7 : t2 L p n k p (35, 0, 0) 7 = N n := by rw [t2_lo (by decide)]; exact hL7
    refine ⟨some (aI (N n)), ?_⟩
    rw [s249_105]
    simp only [m249, s249_0, s249_1, s249_4, s249_6, s249_7, s249_8, s249_9, s249_10, s249_11, s249_12, s249_14, s249_15, s249_18, s249_20, s249_21, s249_24, s249_25, s249_27, s249_29, s249_32, s249_33, s249_34, s249_35, s249_36, s249_37, s249_38, s249_39, s249_40, s249_43, s249_46, s249_49, s249_52, s249_53, s249_55, s249_57, s249_60, s249_61, s249_64, s249_66, s249_68, s249_69, s249_70, s249_71, s249_72, s249_73, s249_74, s249_77, s249_79, s249_81, s249_82, s249_83, s249_84, s249_86, s249_87, s249_88, s249_89, s249_90, s249_91, s249_94, s249_97, s249_100, s249_103, s249_104, s249_106, s249_107, s249_110, s249_112, s249_113, s249_116, s249_117, s249_119, s249_120, s249_123, s249_125, s249_126, s249_129, s249_130, s249_133, s249_135, s249_137, s249_138, s249_139, s249_140, s249_141, s249_142, s249_143, s249_146, s249_148, s249_150, s249_151, s249_152, s249_153, s249_154, s249_155, s249_156, s249_157, s249_158, s249_159, s249_162, s249_165, s249_168, s249_171, hR.m.1, kn7, cl7, ag35, q7, N_ge hk (show n < 2147483648 by omega), if_false, if_true, ck_v, ck_x, Option.toList, List.cons_append, List.nil_append, kil_nil, N_1, o10, o00, exN_0, exN_1, exN_2, exN_3, exN_4, exN_5, Ex]
    refine (iter_to (f := fun j => ev (evm (d + 1)) 249 118 [some (aR (12, 0, 0)), some (aI (N p)), some (aI (N k)), some (aI (N j))] [] [] (t2 L p n k j, M, R, G)) (show p ≤ n by omega) (fun j h1 h2 => hE k hk j h1 h2)).trans ?_
    have q7' : t2 L p n k n (35, 0, 0) 7 = N n := by rw [t2_lo (by decide)]; exact hL7
    rw [s249_118]
    simp only [m249, s249_0, s249_1, s249_4, s249_6, s249_7, s249_8, s249_9, s249_10, s249_11, s249_12, s249_14, s249_15, s249_18, s249_20, s249_21, s249_24, s249_25, s249_27, s249_29, s249_32, s249_33, s249_34, s249_35, s249_36, s249_37, s249_38, s249_39, s249_40, s249_43, s249_46, s249_49, s249_52, s249_53, s249_55, s249_57, s249_60, s249_61, s249_64, s249_66, s249_68, s249_69, s249_70, s249_71, s249_72, s249_73, s249_74, s249_77, s249_79, s249_81, s249_82, s249_83, s249_84, s249_86, s249_87, s249_88, s249_89, s249_90, s249_91, s249_94, s249_97, s249_100, s249_103, s249_104, s249_106, s249_107, s249_110, s249_112, s249_113, s249_116, s249_117, s249_119, s249_120, s249_123, s249_125, s249_126, s249_129, s249_130, s249_133, s249_135, s249_137, s249_138, s249_139, s249_140, s249_141, s249_142, s249_143, s249_146, s249_148, s249_150, s249_151, s249_152, s249_153, s249_154, s249_155, s249_156, s249_157, s249_158, s249_159, s249_162, s249_165, s249_168, s249_171, hR.m.1, kn7, cl7, ag35, q7', N_ge1 (Nat.le_refl n) (show n < 2147483648 by omega), if_false, if_true, ck_v, ck_x, Option.toList, List.cons_append, List.nil_append, kil_nil, N_1, o10, o00, exN_0, exN_1, exN_2, exN_3, exN_4, exN_5, Ex]
    rw [t2_r]
  have hrun : evm (d + 2) 249 [aR (12, 0, 0), aI (N p)] (I, M, R, G) = some (.inl none, (t2 L p n n p, M, R, G)) := by
    rw [m249]
    have e1 : N (n + 1) - 1 = N n := sub_N (by omega) (by omega)
    simp only [s249_0, s249_1, s249_4, s249_6, s249_7, s249_8, s249_9, s249_10, s249_11, s249_12, hR.m.1, kn7, cl7, ag35, h.2.2.1, hn, e1, kw7, if_false, if_true, ck_v, ck_x, Option.toList, List.cons_append, List.nil_append, kil_nil, N_1, o10, o00, exN_0, exN_1, exN_2, exN_3, exN_4, exN_5, Ex]
    rw [← hJ]
    obtain ⟨l3', e2⟩ := hD (n - p) p (by omega) (Nat.le_refl _) none
    rw [t1_0] at e2
    refine e2.trans ?_
    rw [← hL, s249_13]
    simp only [m249, s249_0, s249_1, s249_4, s249_6, s249_7, s249_8, s249_9, s249_10, s249_11, s249_12, s249_14, s249_15, s249_18, s249_20, s249_21, s249_24, s249_25, s249_27, s249_29, s249_32, s249_33, s249_34, s249_35, s249_36, s249_37, s249_38, s249_39, s249_40, s249_43, s249_46, s249_49, s249_52, s249_53, s249_55, s249_57, s249_60, s249_61, s249_64, s249_66, s249_68, s249_69, s249_70, s249_71, s249_72, s249_73, s249_74, s249_77, s249_79, s249_81, s249_82, s249_83, s249_84, s249_86, s249_87, s249_88, s249_89, s249_90, s249_91, s249_94, s249_97, s249_100, s249_103, s249_104, s249_106, s249_107, s249_110, s249_112, s249_113, s249_116, s249_117, s249_119, s249_120, s249_123, s249_125, s249_126, s249_129, s249_130, s249_133, s249_135, s249_137, s249_138, s249_139, s249_140, s249_141, s249_142, s249_143, s249_146, s249_148, s249_150, s249_151, s249_152, s249_153, s249_154, s249_155, s249_156, s249_157, s249_158, s249_159, s249_162, s249_165, s249_168, s249_171, hR.m.1, kn7, cl7, ag35, hL7, N_ge1 (Nat.le_refl n) (show n < 2147483648 by omega), if_false, if_true, ck_v, ck_x, Option.toList, List.cons_append, List.nil_append, kil_nil, N_1, o10, o00, exN_0, exN_1, exN_2, exN_3, exN_4, exN_5, Ex]
    have := loopJ (n := n) (f := fun k (l3 : Option AV) => ev (evm (d + 1)) 249 105 [some (aR (12, 0, 0)), some (aI (N p)), some (aI (N k)), l3] [] [] (t2 L p n k p, M, R, G)) (r := some (.inl none, (t2 L p n n p, M, R, G))) (fun k l3 hk => hF k l3 hk) (fun l3 => by
      have q7 : t2 L p n n p (35, 0, 0) 7 = N n := by rw [t2_lo (by decide)]; exact hL7
      rw [s249_105]
      simp only [m249, s249_0, s249_1, s249_4, s249_6, s249_7, s249_8, s249_9, s249_10, s249_11, s249_12, s249_14, s249_15, s249_18, s249_20, s249_21, s249_24, s249_25, s249_27, s249_29, s249_32, s249_33, s249_34, s249_35, s249_36, s249_37, s249_38, s249_39, s249_40, s249_43, s249_46, s249_49, s249_52, s249_53, s249_55, s249_57, s249_60, s249_61, s249_64, s249_66, s249_68, s249_69, s249_70, s249_71, s249_72, s249_73, s249_74, s249_77, s249_79, s249_81, s249_82, s249_83, s249_84, s249_86, s249_87, s249_88, s249_89, s249_90, s249_91, s249_94, s249_97, s249_100, s249_103, s249_104, s249_106, s249_107, s249_110, s249_112, s249_113, s249_116, s249_117, s249_119, s249_120, s249_123, s249_125, s249_126, s249_129, s249_130, s249_133, s249_135, s249_137, s249_138, s249_139, s249_140, s249_141, s249_142, s249_143, s249_146, s249_148, s249_150, s249_151, s249_152, s249_153, s249_154, s249_155, s249_156, s249_157, s249_158, s249_159, s249_162, s249_165, s249_168, s249_171, hR.m.1, kn7, cl7, ag35, q7, N_ge1 (Nat.le_refl n) (show n < 2147483648 by omega), if_false, if_true, ck_v, ck_x, Option.toList, List.cons_append, List.nil_append, kil_nil, N_1, o10, o00, exN_0, exN_1, exN_2, exN_3, exN_4, exN_5, Ex]) l3'
    simp only [t2_0] at this
    exact this
  have vlo : ∀ f, f < 15 → f ≠ 7 → t2 L p n n p (35, 0, 0) f = I (35, 0, 0) f := fun f hf h7 => by
    rw [t2_lo (by omega), hL, t1_lo hf, hJx f h7]
  obtain ⟨⟨r0, r1, r2⟩, ⟨r3, r4, r5, r6⟩, r7, -, r8, hp', hf, hl, hc⟩ := h
  have hrn : vn (remB B p).1 = n := by show vn B.1 - 1 = n; omega
  have vst : ∀ k f, k < n → f < 6 → t2 L p n n p (35, 0, 0) (15 + 6 * k + f) = I (35, 0, 0) (15 + 6 * sh p k + f) := fun k f hk hf => by
    rw [t2_lo (by omega), hL]
    unfold t1 sh
    by_cases hkp : k < p
    · rw [if_neg (by omega), if_pos hkp]; exact hJx _ (by omega)
    · rw [if_pos ⟨rfl, Or.inl (by omega)⟩, if_pos (by omega), if_neg hkp, hJx _ (by omega)]
      exact congrArg _ (by omega)
  refine ⟨_, hrun, ⟨⟨?_, ?_, ?_⟩, ⟨?_, ?_, ?_, ?_⟩, ?_, ?_, ?_, ?_, ?_, ?_, ?_⟩, ?_⟩
  · rw [vlo 0 (by decide) (by decide)]; exact r0
  · rw [vlo 1 (by decide) (by decide)]; exact r1
  · rw [vlo 2 (by decide) (by decide)]; exact r2
  · rw [vlo 3 (by decide) (by decide)]; exact r3
  · rw [vlo 4 (by decide) (by decide)]; exact r4
  · rw [vlo 5 (by decide) (by decide)]; exact r5
  · rw [vlo 6 (by decide) (by decide)]; exact r6
  · rw [t2_lo (by decide), hL7, hrn]
  · rw [hrn]; omega
  · rw [vlo 8 (by decide) (by decide)]; exact r8
  · intro m hm hb
    rw [vlo _ (by omega) (by omega), vlo _ (by omega) (by omega), vlo _ (by omega) (by omega)]
    exact hp' m hm hb
  · intro k hk f hf'
    rw [hrn] at hk
    rw [vst k f hk (by omega)]
    exact hf (sh p k) (by unfold sh; split <;> omega) f hf'
  · intro k hk
    rw [hrn] at hk
    rw [vst k 5 hk (by omega)]
    exact hl (sh p k) (by unfold sh; split <;> omega)
  · intro a b ha hb
    rw [hrn] at ha hb
    have hrow : ∀ y, y < 7 → L (35, 0, 0) (57 + 7 * a + y) = I (35, 0, 0) (57 + 7 * sh p a + y) := fun y hy => by
      rw [hL]
      unfold t1 sh
      by_cases hap : a < p
      · rw [if_neg (by omega), if_pos hap]; exact hJx _ (by omega)
      · rw [if_pos ⟨rfl, Or.inr (by omega)⟩, if_neg (by omega), if_neg hap, hJx _ (by omega)]
        exact congrArg _ (by omega)
    have hcol : t2 L p n n p (35, 0, 0) (57 + 7 * a + b) = L (35, 0, 0) (57 + 7 * a + sh p b) := by
      unfold t2 sh
      by_cases hbp : b < p
      · rw [if_neg (by omega), if_pos hbp]
      · rw [if_pos ⟨rfl, by omega, by omega, by omega, Or.inl (by omega)⟩, if_neg hbp]
        exact congrArg _ (by omega)
    rw [hcol, hrow _ (by unfold sh; split <;> omega)]
    exact hc (sh p a) (sh p b) (by unfold sh; split <;> omega) (by unfold sh; split <;> omega)
  · intro o ho
    rw [t2_ne ho, hL, t1_ne ho, hJ, setI_ne ho]
end TAKEOUT
