/-! THE METHODS' MEANING: spans, the model's -/
theorem ab_tab : ∀ a, a < 64 → ∀ b, b < 64 → ab (N a - N b) = N (dsn a b) := by decide +kernel
def msp (V : Vw) (a b : Nat) : Nat := (spv V b a).toNatClampNeg
abbrev lcd (V : Vw) (k : Nat) : Prop := vl V k = true
def frb (V : Vw) (g : Nat → Nat) (e c : Nat) : Nat → Bool
  | 0 => true
  | k + 1 => frb V g e c k && (!vl V k || decide (msp V k e ≤ dsn (g k) c))
theorem frb_iff {V : Vw} {g : Nat → Nat} {e c : Nat} : ∀ {k : Nat}, frb V g e c k = true ↔ ∀ a, a < k → lcd V a → msp V a e ≤ dsn (g a) c
  | 0 => ⟨fun _ a ha => by omega, fun _ => rfl⟩
  | k + 1 => by
    have ih := frb_iff (V := V) (g := g) (e := e) (c := c) (k := k)
    unfold frb
    rw [Bool.and_eq_true, ih, Bool.or_eq_true, decide_eq_true_eq]
    refine ⟨fun h a ha hl => ?_, fun h => ⟨fun a ha => h a (by omega), ?_⟩⟩
    · by_cases hak : a = k
      · subst hak
        rcases h.2 with q | q
        · rw [hl] at q
          cases q
        · exact q
      · exact h.1 a (by omega) hl
    · cases hv : vl V k with
      | false => exact Or.inl rfl
      | true => exact Or.inr (h k (by omega) hv)
theorem EX_FE {V : Vw} {m : Nat} {g : Nat → Nat} (hW : WV V) : EX (lcd V) (msp V) m (vn V) 0 g ↔ FE (gsp V (Ls V none)) m (Ls V none).length := by
  have hinj : ∀ i j, i < (Ls V none).length → j < (Ls V none).length → (Ls V none).getD i 0 = (Ls V none).getD j 0 → i = j := fun i j hi hj q => lsl_inj (getD_lt hi) (q ▸ getD_lt hj)
  have hmem : ∀ i, i < (Ls V none).length → (Ls V none).getD i 0 < vn V ∧ vl V ((Ls V none).getD i 0) = true := fun i hi => by
    obtain ⟨h1, h2, -⟩ := lsl_mem.mp (ls_get (getD_lt hi)).2
    exact ⟨h1, h2⟩
  refine ⟨fun h => ?_, fun h => ?_⟩
  · obtain ⟨c, -, h2⟩ := h
    refine ⟨fun i => c ((Ls V none).getD i 0), fun i hi => (h2 _ (Nat.zero_le _) (hmem i hi).1 (hmem i hi).2).1, fun i j hi hj hij => ?_⟩
    show gsp V (Ls V none) i j ≤ dsn (c ((Ls V none).getD i 0)) (c ((Ls V none).getD j 0))
    rcases Nat.lt_trichotomy ((Ls V none).getD i 0) ((Ls V none).getD j 0) with q | q | q
    · rw [(gsp_ok hW ls_m hi hj).2.2]
      exact (h2 _ (Nat.zero_le _) (hmem j hj).1 (hmem j hj).2).2 _ q (hmem i hi).2
    · exact absurd (hinj i j hi hj q) hij
    · rw [dsn_c]
      exact (h2 _ (Nat.zero_le _) (hmem i hi).1 (hmem i hi).2).2 _ q (hmem j hj).2
  · obtain ⟨c, h1, h2⟩ := h
    have hpos : ∀ k, k < vn V → vl V k = true → ∃ i, i < (Ls V none).length ∧ (Ls V none).getD i 0 = k ∧ pos (fun i => (Ls V none).getD i 0) (Ls V none).length k = i := fun k hk hl => by
      have hm : k ∈ Ls V none := lsl_mem.mpr ⟨hk, hl, fun q => by cases q⟩
      obtain ⟨i, hi⟩ := List.mem_iff_getElem?.mp hm
      have e := getD_of hi
      exact ⟨i, (ls_get hi).1, e, by
        rw [← e]
        exact pos_ok (p := fun i => (Ls V none).getD i 0) hinj (ls_get hi).1⟩
    refine ⟨fun k => c (pos (fun i => (Ls V none).getD i 0) (Ls V none).length k), fun d hd => by omega, fun b _ hb hlb => ?_⟩
    obtain ⟨j, hj, ej, pj⟩ := hpos b hb hlb
    show c (pos _ _ b) < m ∧ ∀ a, a < b → lcd V a → msp V a b ≤ dsn (c (pos _ _ a)) (c (pos _ _ b))
    rw [pj]
    refine ⟨h1 j hj, fun a ha hla => ?_⟩
    obtain ⟨i, hi, ei, pi⟩ := hpos a (by omega) hla
    rw [pi]
    have hij : j ≠ i := fun q => by
      rw [q, ei] at ej
      omega
    have := h2 j i hj hi hij
    unfold gsp at this
    rw [ej, ei, dsn_c] at this
    exact this
section MSPAN
variable {d : Nat} {I I' : OId → Nat → Int32} {M R : OId → Nat → AV} {G : SG} {V : Vw}
theorem k41 : kOf (41, 0, 0) = .inr (.int, 7) := rfl
theorem assignsM_ok {many : Nat} (hR : RF R) (hW : WV V) (hmany : many < 56) : ∀ (r e : Nat) (g : Nat → Nat) (I : OId → Nat → Int32), e + r = vn V → MV I V → (∀ d, d < e → vl V d = true → I (41, 0, 0) d = N (g d) ∧ g d < 56) → ∃ b I', evm (d + r + 7) 300 [aR (12, 0, 0), aI (N e), aI (N many)] (I, M, R, G) = some (.inl (some (aI (if b = true then 1 else 0))), (I', M, R, G)) ∧ (b = true ↔ EX (lcd V) (msp V) many (vn V) e g) ∧ (∀ o, o ≠ (41, 0, 0) → I' o = I o) ∧ ∀ x, x < e → I' (41, 0, 0) x = I (41, 0, 0) x
  | 0, e, g, I, he, hV, hg => by
    have ee : e = vn V := by omega
    subst ee
    refine ⟨true, I, ?_, ⟨fun _ => EX_n, fun _ => rfl⟩, fun _ _ => rfl, fun _ _ => rfl⟩
    have q : (N (vn V) = N (vn V)) = True := eq_true rfl
    show evm (d + 6 + 1) 300 _ _ = _
    rw [m300]
    simp only [s300_0, s300_1, s300_2, s300_5, s300_7, s300_8, s300_11, s300_12, s300_13, s300_14, s300_15, s300_18, s300_21, s300_22, s300_23, s300_24, s300_25, s300_26, s300_29, s300_30, s300_31, hR.m.1, kn7, cl7, ag35, hV.2.1, if_false, if_true, ck_v, ck_x, Option.toList, List.cons_append, List.nil_append, kil_nil, N_1, o10, o00, exN_0, exN_1, exN_2, exN_3, exN_4, exN_5, Ex, or_true]
  | r + 1, e, g, I, he, hV, hg => by
    have h7 := hV.2.2.1
    have hen : e < vn V := by omega
    have ene : (N e = N (vn V)) = False := by
      rw [N_inj (by omega) (by omega)]
      exact eq_false (by omega)
    cases hle : vl V e with
    | false =>
      have hl0 : licv V e = 0 := by unfold licv; rw [hle]; rfl
      obtain ⟨b, I', e1, a1, a2, a3⟩ := assignsM_ok hR hW hmany r (e + 1) g I (by omega) hV (fun x hx hlx => by
        have : x ≠ e := fun q => by rw [q, hle] at hlx; cases hlx
        exact hg x (by omega) hlx)
      refine ⟨b, I', ?_, ?_, a2, fun x hx => a3 x (by omega)⟩
      · show evm (d + r + 7 + 1) 300 _ _ = _
        rw [m300]
        simp only [s300_0, s300_1, s300_2, s300_5, s300_7, s300_8, s300_11, s300_12, s300_13, s300_14, s300_15, s300_18, s300_21, s300_22, s300_23, s300_24, s300_25, s300_26, s300_29, s300_30, s300_31, hR.m.1, kn7, cl7, ag35, hV.2.1, ene, isLicensed_ok hR hV hen, hl0, N_1, e1, if_false, if_true, ck_v, ck_x, Option.toList, List.cons_append, List.nil_append, kil_nil, N_1, o10, o00, exN_0, exN_1, exN_2, exN_3, exN_4, exN_5, Ex]
        cases b <;> simp
      · exact a1.trans (EX_skip (lic := lcd V) (e := e) (fun q => by
          have q2 : vl V e = true := q
          rw [hle] at q2
          cases q2)).symm
    | true =>
      have hl1 : licv V e = 1 := by unfold licv; rw [hle]; rfl
      have hlc : lcd V e := hle
      -- the loop over the channels
      have hC : ∀ (s c : Nat) (J : OId → Nat → Int32) (l4 l5 : Option AV), c + s = many → (∀ o, o ≠ (41, 0, 0) → J o = I o) → (∀ x, x < e → J (41, 0, 0) x = I (41, 0, 0) x) → ∃ b I', ev (evm (d + r + 7)) 300 32 [some (aR (12, 0, 0)), some (aI (N e)), some (aI (N many)), some (aI (N c)), l4, l5] [] [] (J, M, R, G) = some (.inl (some (aI (if b = true then 1 else 0))), (I', M, R, G)) ∧ (b = true ↔ ∃ x, c ≤ x ∧ x < many ∧ (∀ a, a < e → lcd V a → msp V a e ≤ dsn (g a) x) ∧ EX (lcd V) (msp V) many (vn V) (e + 1) (upn g e x)) ∧ (∀ o, o ≠ (41, 0, 0) → I' o = I o) ∧ ∀ x, x < e → I' (41, 0, 0) x = I (41, 0, 0) x := by
        intro s
        induction s with
        | zero =>
          intro c J l4 l5 hc hF hx
          refine ⟨false, J, ?_, ⟨fun h => (by cases h), fun h => ?_⟩, hF, hx⟩
          · rw [s300_32]
            simp only [s300_0, s300_1, s300_2, s300_5, s300_7, s300_8, s300_11, s300_12, s300_13, s300_14, s300_15, s300_18, s300_21, s300_22, s300_23, s300_24, s300_25, s300_26, s300_29, s300_30, s300_31, s300_33, s300_34, s300_37, s300_38, s300_40, s300_41, s300_45, s300_46, s300_49, s300_51, s300_54, s300_55, s300_57, s300_60, s300_63, s300_64, s300_67, s300_69, s300_70, s300_71, s300_72, s300_75, s300_76, s300_77, s300_79, s300_82, s300_85, s300_86, s300_89, s300_90, s300_92, s300_95, s300_98, s300_99, s300_102, s300_103, s300_104, s300_105, s300_107, s300_110, s300_111, s300_112, s300_113, s300_114, s300_115, s300_118, s300_121, s300_122, s300_123, s300_126, s300_129, s300_130, N_ge1 (show many ≤ c by omega) (show c < 2147483648 by omega), if_false, if_true, ck_v, ck_x, Option.toList, List.cons_append, List.nil_append, kil_nil, N_1, o10, o00, exN_0, exN_1, exN_2, exN_3, exN_4, exN_5, Ex, true_or, Bool.false_eq_true]
          · obtain ⟨x, h1, h2, -⟩ := h
            omega
        | succ s ih =>
          intro c J l4 l5 hc hF hx
          have hcm : c < many := by omega
          have hge : (N many ≤ N c) = False := N_ge hcm (by omega)
          have hVJ : MV J V := hV.fr (hF _ (by simp))
          have hk : ∀ k, k < e → ev (evm (d + r + 7)) 300 43 [some (aR (12, 0, 0)), some (aI (N e)), some (aI (N many)), some (aI (N c)), some (aI (if frb V g e c k = true then 1 else 0)), some (aI (N k))] [] [] (J, M, R, G) = ev (evm (d + r + 7)) 300 43 [some (aR (12, 0, 0)), some (aI (N e)), some (aI (N many)), some (aI (N c)), some (aI (if frb V g e c (k + 1) = true then 1 else 0)), some (aI (N (k + 1)))] [] [] (J, M, R, G) := by
            intro k hke
            have hge2 : (N e ≤ N k) = False := N_ge hke (by omega)
            have hkn : k < vn V := by omega
            rw [s300_43]
            cases hf : frb V g e c k with
            | false =>
              have e2 : frb V g e c (k + 1) = false := by unfold frb; rw [hf]; rfl
              rw [e2]
              simp only [s300_0, s300_1, s300_2, s300_5, s300_7, s300_8, s300_11, s300_12, s300_13, s300_14, s300_15, s300_18, s300_21, s300_22, s300_23, s300_24, s300_25, s300_26, s300_29, s300_30, s300_31, s300_33, s300_34, s300_37, s300_38, s300_40, s300_41, s300_45, s300_46, s300_49, s300_51, s300_54, s300_55, s300_57, s300_60, s300_63, s300_64, s300_67, s300_69, s300_70, s300_71, s300_72, s300_75, s300_76, s300_77, s300_79, s300_82, s300_85, s300_86, s300_89, s300_90, s300_92, s300_95, s300_98, s300_99, s300_102, s300_103, s300_104, s300_105, s300_107, s300_110, s300_111, s300_112, s300_113, s300_114, s300_115, s300_118, s300_121, s300_122, s300_123, s300_126, s300_129, s300_130, hge2, if_false, if_true, ck_v, ck_x, Option.toList, List.cons_append, List.nil_append, kil_nil, N_1, o10, o00, exN_0, exN_1, exN_2, exN_3, exN_4, exN_5, Ex, Bool.false_eq_true]
            | true =>
              cases hlk : vl V k with
              | false =>
                have hl0 : licv V k = 0 := by unfold licv; rw [hlk]; rfl
                have e2 : frb V g e c (k + 1) = true := by unfold frb; rw [hf, hlk]; rfl
                rw [e2]
                simp only [s300_0, s300_1, s300_2, s300_5, s300_7, s300_8, s300_11, s300_12, s300_13, s300_14, s300_15, s300_18, s300_21, s300_22, s300_23, s300_24, s300_25, s300_26, s300_29, s300_30, s300_31, s300_33, s300_34, s300_37, s300_38, s300_40, s300_41, s300_45, s300_46, s300_49, s300_51, s300_54, s300_55, s300_57, s300_60, s300_63, s300_64, s300_67, s300_69, s300_70, s300_71, s300_72, s300_75, s300_76, s300_77, s300_79, s300_82, s300_85, s300_86, s300_89, s300_90, s300_92, s300_95, s300_98, s300_99, s300_102, s300_103, s300_104, s300_105, s300_107, s300_110, s300_111, s300_112, s300_113, s300_114, s300_115, s300_118, s300_121, s300_122, s300_123, s300_126, s300_129, s300_130, hge2, isLicensed_ok hR hVJ hkn, hl0, if_false, if_true, ck_v, ck_x, Option.toList, List.cons_append, List.nil_append, kil_nil, N_1, o10, o00, exN_0, exN_1, exN_2, exN_3, exN_4, exN_5, Ex]
              | true =>
                have hl0 : licv V k = 1 := by unfold licv; rw [hlk]; rfl
                obtain ⟨w, hw, ew⟩ := hW.sp hen hkn
                have ems : msp V k e = w := by unfold msp; rw [ew, N_cl (by omega)]
                have g41 : J (41, 0, 0) k = N (g k) := by rw [hx k hke]; exact (hg k hke hlk).1
                have e41 : ab (N (g k) - N c) = N (dsn (g k) c) := ab_tab _ (by have := (hg k hke hlk).2; omega) _ (by omega)
                have esp : spm V e k = N w := by rw [spm_v]; exact ew
                have kk41 := fun r => kIx (o := (41, 0, 0)) (r := r) k41 (show k < 7 by omega) (by decide)
                have ag41 : ∀ (S : SS) q, agI S (41, 0, 0) q = S.1 (41, 0, 0) q := fun _ _ => rfl
                have hdb : dsn (g k) c < 2147483648 := by
                  unfold dsn
                  have := (hg k hke hlk).2
                  split <;> omega
                by_cases hq : dsn (g k) c < w
                · have e2 : frb V g e c (k + 1) = false := by
                    unfold frb
                    rw [hf, hlk, ems, decide_eq_false (by omega)]
                    rfl
                  have hlt : (N (dsn (g k) c) < N w) = True := by rw [N_lt hdb (by omega)]; exact eq_true hq
                  rw [e2]
                  simp only [s300_0, s300_1, s300_2, s300_5, s300_7, s300_8, s300_11, s300_12, s300_13, s300_14, s300_15, s300_18, s300_21, s300_22, s300_23, s300_24, s300_25, s300_26, s300_29, s300_30, s300_31, s300_33, s300_34, s300_37, s300_38, s300_40, s300_41, s300_45, s300_46, s300_49, s300_51, s300_54, s300_55, s300_57, s300_60, s300_63, s300_64, s300_67, s300_69, s300_70, s300_71, s300_72, s300_75, s300_76, s300_77, s300_79, s300_82, s300_85, s300_86, s300_89, s300_90, s300_92, s300_95, s300_98, s300_99, s300_102, s300_103, s300_104, s300_105, s300_107, s300_110, s300_111, s300_112, s300_113, s300_114, s300_115, s300_118, s300_121, s300_122, s300_123, s300_126, s300_129, s300_130, hge2, isLicensed_ok hR hVJ hkn, hl0, hR.m.2.2.2.2.2.2, kk41, ag41, N_cl (show k < 2147483648 by omega), g41, size_ok, e41, separationOf_ok hR hVJ hen hkn, esp, hlt, if_false, if_true, ck_v, ck_x, Option.toList, List.cons_append, List.nil_append, kil_nil, N_1, o10, o00, exN_0, exN_1, exN_2, exN_3, exN_4, exN_5, Ex, Bool.false_eq_true]
                · have e2 : frb V g e c (k + 1) = true := by
                    unfold frb
                    rw [hf, hlk, ems, decide_eq_true (by omega)]
                    rfl
                  have hlt : (N (dsn (g k) c) < N w) = False := by rw [N_lt hdb (by omega)]; exact eq_false hq
                  rw [e2]
                  simp only [s300_0, s300_1, s300_2, s300_5, s300_7, s300_8, s300_11, s300_12, s300_13, s300_14, s300_15, s300_18, s300_21, s300_22, s300_23, s300_24, s300_25, s300_26, s300_29, s300_30, s300_31, s300_33, s300_34, s300_37, s300_38, s300_40, s300_41, s300_45, s300_46, s300_49, s300_51, s300_54, s300_55, s300_57, s300_60, s300_63, s300_64, s300_67, s300_69, s300_70, s300_71, s300_72, s300_75, s300_76, s300_77, s300_79, s300_82, s300_85, s300_86, s300_89, s300_90, s300_92, s300_95, s300_98, s300_99, s300_102, s300_103, s300_104, s300_105, s300_107, s300_110, s300_111, s300_112, s300_113, s300_114, s300_115, s300_118, s300_121, s300_122, s300_123, s300_126, s300_129, s300_130, hge2, isLicensed_ok hR hVJ hkn, hl0, hR.m.2.2.2.2.2.2, kk41, ag41, N_cl (show k < 2147483648 by omega), g41, size_ok, e41, separationOf_ok hR hVJ hen hkn, esp, hlt, if_false, if_true, ck_v, ck_x, Option.toList, List.cons_append, List.nil_append, kil_nil, N_1, o10, o00, exN_0, exN_1, exN_2, exN_3, exN_4, exN_5, Ex]
          have hrun : ev (evm (d + r + 7)) 300 32 [some (aR (12, 0, 0)), some (aI (N e)), some (aI (N many)), some (aI (N c)), l4, l5] [] [] (J, M, R, G) = ev (evm (d + r + 7)) 300 43 [some (aR (12, 0, 0)), some (aI (N e)), some (aI (N many)), some (aI (N c)), some (aI (if frb V g e c e = true then 1 else 0)), some (aI (N e))] [] [] (J, M, R, G) := by
            rw [s300_32]
            simp only [s300_0, s300_1, s300_2, s300_5, s300_7, s300_8, s300_11, s300_12, s300_13, s300_14, s300_15, s300_18, s300_21, s300_22, s300_23, s300_24, s300_25, s300_26, s300_29, s300_30, s300_31, s300_33, s300_34, s300_37, s300_38, s300_40, s300_41, s300_45, s300_46, s300_49, s300_51, s300_54, s300_55, s300_57, s300_60, s300_63, s300_64, s300_67, s300_69, s300_70, s300_71, s300_72, s300_75, s300_76, s300_77, s300_79, s300_82, s300_85, s300_86, s300_89, s300_90, s300_92, s300_95, s300_98, s300_99, s300_102, s300_103, s300_104, s300_105, s300_107, s300_110, s300_111, s300_112, s300_113, s300_114, s300_115, s300_118, s300_121, s300_122, s300_123, s300_126, s300_129, s300_130, hge, if_false, if_true, ck_v, ck_x, Option.toList, List.cons_append, List.nil_append, kil_nil, N_1, o10, o00, exN_0, exN_1, exN_2, exN_3, exN_4, exN_5, Ex]
            exact iter (f := fun k => ev (evm (d + r + 7)) 300 43 [some (aR (12, 0, 0)), some (aI (N e)), some (aI (N many)), some (aI (N c)), some (aI (if frb V g e c k = true then 1 else 0)), some (aI (N k))] [] [] (J, M, R, G)) hk
          have hge3 : (N e ≤ N e) = True := N_ge1 (Nat.le_refl e) (by omega)
          have kw41 := fun r => kIwx (o := (41, 0, 0)) (r := r) k41 rfl (show e < 7 by omega) (by decide)
          have hF1 : ∀ o, o ≠ (41, 0, 0) → setI J (41, 0, 0) e (N c) o = I o := fun o ho => by rw [setI_ne ho]; exact hF o ho
          have hx1 : ∀ x, x < e → setI J (41, 0, 0) e (N c) (41, 0, 0) x = I (41, 0, 0) x := fun x hx' => by rw [setI_at, if_neg (by omega)]; exact hx x hx'
          cases hf : frb V g e c e with
          | false =>
            obtain ⟨b, I', e1, a1, a2, a3⟩ := ih (c + 1) (setI J (41, 0, 0) e (N c)) (some (aI 0)) (some (aI (N e))) (by omega) hF1 hx1
            refine ⟨b, I', ?_, ⟨fun h => ?_, fun h => ?_⟩, a2, a3⟩
            · rw [hrun, hf, s300_43]
              simp only [s300_0, s300_1, s300_2, s300_5, s300_7, s300_8, s300_11, s300_12, s300_13, s300_14, s300_15, s300_18, s300_21, s300_22, s300_23, s300_24, s300_25, s300_26, s300_29, s300_30, s300_31, s300_33, s300_34, s300_37, s300_38, s300_40, s300_41, s300_45, s300_46, s300_49, s300_51, s300_54, s300_55, s300_57, s300_60, s300_63, s300_64, s300_67, s300_69, s300_70, s300_71, s300_72, s300_75, s300_76, s300_77, s300_79, s300_82, s300_85, s300_86, s300_89, s300_90, s300_92, s300_95, s300_98, s300_99, s300_102, s300_103, s300_104, s300_105, s300_107, s300_110, s300_111, s300_112, s300_113, s300_114, s300_115, s300_118, s300_121, s300_122, s300_123, s300_126, s300_129, s300_130, hge3, hR.m.2.2.2.2.2.2, kw41, N_cl (show e < 2147483648 by omega), if_false, if_true, ck_v, ck_x, Option.toList, List.cons_append, List.nil_append, kil_nil, N_1, o10, o00, exN_0, exN_1, exN_2, exN_3, exN_4, exN_5, Ex, Bool.false_eq_true]
              exact e1
            · obtain ⟨x, h1, h2⟩ := a1.mp h
              exact ⟨x, by omega, h2⟩
            · obtain ⟨x, h1, h2, h3, h4⟩ := h
              refine a1.mpr ⟨x, ?_, h2, h3, h4⟩
              have : x ≠ c := fun q => by
                rw [q] at h3
                rw [frb_iff.mpr h3] at hf
                cases hf
              omega
          | true =>
            obtain ⟨b2, I2, e2, c1, c2, c3⟩ := assignsM_ok hR hW hmany r (e + 1) (upn g e c) (setI J (41, 0, 0) e (N c)) (by omega) (hV.fr (hF1 _ (by simp))) (fun x hx' hlx => by
              by_cases hxe : x = e
              · rw [hxe, upn_e, setI_at, if_pos rfl]
                exact ⟨rfl, by omega⟩
              · rw [upn_o hxe, hx1 x (by omega)]
                exact hg x (by omega) hlx)
            cases hb2 : b2 with
            | true =>
              rw [hb2, if_pos rfl] at e2
              refine ⟨true, I2, ?_, ⟨fun _ => ⟨c, Nat.le_refl _, hcm, frb_iff.mp hf, c1.mp hb2⟩, fun _ => rfl⟩, fun o ho => (c2 o ho).trans (hF1 o ho), fun x hx' => (c3 x (by omega)).trans (hx1 x hx')⟩
              rw [hrun, hf, s300_43]
              simp only [s300_0, s300_1, s300_2, s300_5, s300_7, s300_8, s300_11, s300_12, s300_13, s300_14, s300_15, s300_18, s300_21, s300_22, s300_23, s300_24, s300_25, s300_26, s300_29, s300_30, s300_31, s300_33, s300_34, s300_37, s300_38, s300_40, s300_41, s300_45, s300_46, s300_49, s300_51, s300_54, s300_55, s300_57, s300_60, s300_63, s300_64, s300_67, s300_69, s300_70, s300_71, s300_72, s300_75, s300_76, s300_77, s300_79, s300_82, s300_85, s300_86, s300_89, s300_90, s300_92, s300_95, s300_98, s300_99, s300_102, s300_103, s300_104, s300_105, s300_107, s300_110, s300_111, s300_112, s300_113, s300_114, s300_115, s300_118, s300_121, s300_122, s300_123, s300_126, s300_129, s300_130, hge3, hR.m.2.2.2.2.2.2, kw41, N_cl (show e < 2147483648 by omega), N_1, e2, if_false, if_true, ck_v, ck_x, Option.toList, List.cons_append, List.nil_append, kil_nil, N_1, o10, o00, exN_0, exN_1, exN_2, exN_3, exN_4, exN_5, Ex, or_true]
            | false =>
              rw [hb2, if_neg (by simp)] at e2
              obtain ⟨b, I', e1, a1, a2, a3⟩ := ih (c + 1) I2 (some (aI 1)) (some (aI (N e))) (by omega) (fun o ho => (c2 o ho).trans (hF1 o ho)) (fun x hx' => (c3 x (by omega)).trans (hx1 x hx'))
              refine ⟨b, I', ?_, ⟨fun h => ?_, fun h => ?_⟩, a2, a3⟩
              · rw [hrun, hf, s300_43]
                simp only [s300_0, s300_1, s300_2, s300_5, s300_7, s300_8, s300_11, s300_12, s300_13, s300_14, s300_15, s300_18, s300_21, s300_22, s300_23, s300_24, s300_25, s300_26, s300_29, s300_30, s300_31, s300_33, s300_34, s300_37, s300_38, s300_40, s300_41, s300_45, s300_46, s300_49, s300_51, s300_54, s300_55, s300_57, s300_60, s300_63, s300_64, s300_67, s300_69, s300_70, s300_71, s300_72, s300_75, s300_76, s300_77, s300_79, s300_82, s300_85, s300_86, s300_89, s300_90, s300_92, s300_95, s300_98, s300_99, s300_102, s300_103, s300_104, s300_105, s300_107, s300_110, s300_111, s300_112, s300_113, s300_114, s300_115, s300_118, s300_121, s300_122, s300_123, s300_126, s300_129, s300_130, hge3, hR.m.2.2.2.2.2.2, kw41, N_cl (show e < 2147483648 by omega), N_1, e2, if_false, if_true, ck_v, ck_x, Option.toList, List.cons_append, List.nil_append, kil_nil, N_1, o10, o00, exN_0, exN_1, exN_2, exN_3, exN_4, exN_5, Ex]
                exact e1
              · obtain ⟨x, h1, h2⟩ := a1.mp h
                exact ⟨x, by omega, h2⟩
              · obtain ⟨x, h1, h2, h3, h4⟩ := h
                refine a1.mpr ⟨x, ?_, h2, h3, h4⟩
                have : x ≠ c := fun q => by
                  rw [q] at h4
                  rw [c1.mpr h4] at hb2
                  cases hb2
                omega
      obtain ⟨b, I', e1, a1, a2, a3⟩ := hC many 0 I none none (by omega) (fun _ _ => rfl) (fun _ _ => rfl)
      refine ⟨b, I', ?_, ?_, a2, a3⟩
      · show evm (d + r + 7 + 1) 300 _ _ = _
        rw [m300]
        simp only [s300_0, s300_1, s300_2, s300_5, s300_7, s300_8, s300_11, s300_12, s300_13, s300_14, s300_15, s300_18, s300_21, s300_22, s300_23, s300_24, s300_25, s300_26, s300_29, s300_30, s300_31, hR.m.1, kn7, cl7, ag35, hV.2.1, ene, isLicensed_ok hR hV hen, hl1, if_false, if_true, ck_v, ck_x, Option.toList, List.cons_append, List.nil_append, kil_nil, N_1, o10, o00, exN_0, exN_1, exN_2, exN_3, exN_4, exN_5, Ex]
        exact e1
      · rw [a1, EX_step hlc hen]
        refine ⟨fun h => ?_, fun h => ?_⟩
        · obtain ⟨x, -, h2, h3, h4⟩ := h
          exact ⟨x, h2, h3, h4⟩
        · obtain ⟨x, h2, h3, h4⟩ := h
          exact ⟨x, Nat.zero_le _, h2, h3, h4⟩
theorem leastSpanM_ok (hR : RF R) (hW : WV V) (hV : MV I V) : ∃ I' k, evm (d + 15) 299 [aR (12, 0, 0)] (I, M, R, G) = some (.inl (some (aI (N k))), (I', M, R, G)) ∧ ILS (gsp V (Ls V none)) (Ls V none).length k ∧ ∀ o, o ≠ (41, 0, 0) → I' o = thr I 0 o := by
  have h7 := hV.2.2.1
  have hl : ∀ (r m : Nat) (J : OId → Nat → Int32), m + r = 31 → (∀ m', m' < m → ¬ FE (gsp V (Ls V none)) m' (Ls V none).length) → (∀ o, o ≠ (41, 0, 0) → J o = thr I 0 o) → ∃ I' k, ev (evm (d + 14)) 299 7 [some (aR (12, 0, 0)), some (aI (N m))] [] [] (J, M, R, G) = some (.inl (some (aI (N k))), (I', M, R, G)) ∧ ILS (gsp V (Ls V none)) (Ls V none).length k ∧ ∀ o, o ≠ (41, 0, 0) → I' o = thr I 0 o := by
    intro r
    induction r with
    | zero =>
      intro m J hmr hno hF
      have hVJ : MV J V := hV.thr (x := 0) |>.fr (hF _ (by simp))
      obtain ⟨b, I1, e1, a1, a2, a3⟩ := assignsM_ok (d := d + 7 - vn V) (M := M) (G := G) (many := m) hR hW (by omega) (vn V) 0 (fun _ => 0) J (by omega) hVJ (fun x hx => by omega)
      rw [show d + 7 - vn V + vn V + 7 = d + 14 by omega] at e1
      have e1' : evm (d + 14) 300 [aR (12, 0, 0), aI 0, aI (N m)] (J, M, R, G) = some (.inl (some (aI (if b = true then 1 else 0))), (I1, M, R, G)) := e1
      have hfe := a1.trans (EX_FE hW)
      have hm31 : m = 31 := by omega
      have hb : b = true := hfe.mpr (hm31 ▸ FE31 hW ls_m (ls_7 h7))
      rw [hb, if_pos rfl] at e1'
      refine ⟨I1, m, ?_, ⟨hfe.mp hb, hno⟩, fun o ho => (a2 o ho).trans (hF o ho)⟩
      rw [s299_7]
      simp only [m299, s299_0, s299_1, s299_2, s299_5, s299_6, s299_8, s299_9, s299_10, s299_13, s299_16, s299_19, s299_22, s299_23, e1', if_false, if_true, ck_v, ck_x, Option.toList, List.cons_append, List.nil_append, kil_nil, N_1, o10, o00, exN_0, exN_1, exN_2, exN_3, exN_4, exN_5, Ex]
    | succ r ih =>
      intro m J hmr hno hF
      have hVJ : MV J V := hV.thr (x := 0) |>.fr (hF _ (by simp))
      obtain ⟨b, I1, e1, a1, a2, a3⟩ := assignsM_ok (d := d + 7 - vn V) (M := M) (G := G) (many := m) hR hW (by omega) (vn V) 0 (fun _ => 0) J (by omega) hVJ (fun x hx => by omega)
      rw [show d + 7 - vn V + vn V + 7 = d + 14 by omega] at e1
      have e1' : evm (d + 14) 300 [aR (12, 0, 0), aI 0, aI (N m)] (J, M, R, G) = some (.inl (some (aI (if b = true then 1 else 0))), (I1, M, R, G)) := e1
      have hfe := a1.trans (EX_FE hW)
      cases hb : b with
      | true =>
        rw [hb, if_pos rfl] at e1'
        refine ⟨I1, m, ?_, ⟨hfe.mp hb, hno⟩, fun o ho => (a2 o ho).trans (hF o ho)⟩
        rw [s299_7]
        simp only [m299, s299_0, s299_1, s299_2, s299_5, s299_6, s299_8, s299_9, s299_10, s299_13, s299_16, s299_19, s299_22, s299_23, e1', if_false, if_true, ck_v, ck_x, Option.toList, List.cons_append, List.nil_append, kil_nil, N_1, o10, o00, exN_0, exN_1, exN_2, exN_3, exN_4, exN_5, Ex]
      | false =>
        rw [hb, if_neg (by simp)] at e1'
        obtain ⟨I', k, e2, c1, c2⟩ := ih (m + 1) I1 (by omega) (fun m' hm' => by
          by_cases hmm : m' = m
          · rw [hmm]
            exact fun q => by
              rw [hfe.mpr q] at hb
              cases hb
          · exact hno m' (by omega)) (fun o ho => (a2 o ho).trans (hF o ho))
        refine ⟨I', k, ?_, c1, c2⟩
        rw [s299_7]
        simp only [m299, s299_0, s299_1, s299_2, s299_5, s299_6, s299_8, s299_9, s299_10, s299_13, s299_16, s299_19, s299_22, s299_23, e1', if_false, if_true, ck_v, ck_x, Option.toList, List.cons_append, List.nil_append, kil_nil, N_1, o10, o00, exN_0, exN_1, exN_2, exN_3, exN_4, exN_5, Ex]
        exact e2
  obtain ⟨I', k, e2, c1, c2⟩ := hl 31 0 (thr I 0) (by decide) (fun m' h => by omega) (fun _ _ => rfl)
  refine ⟨I', k, ?_, c1, c2⟩
  rw [m299]
  simp only [s299_0, s299_1, s299_2, s299_5, s299_6, kil_nil]
  exact e2
theorem leastSpanOM_ok (hR : RF R) (hW : WV V) (hV : MV I V) : ∃ I' k, evm (d + 16) 301 [aR (12, 0, 0)] (I, M, R, G) = some (.inl (some (aI (N k))), (I', M, R, G)) ∧ ILS (gsp V (Ls V none)) (Ls V none).length k ∧ ∀ o, o ≠ (41, 0, 0) → I' o = thr I 0 o := by
  obtain ⟨I', k, e, c⟩ := leastSpanM_ok (d := d) (M := M) (G := G) hR hW hV
  refine ⟨I', k, ?_, c⟩
  simp only [m301, s301_0, s301_1, s301_4, e, if_false, if_true, ck_v, ck_x, Option.toList, List.cons_append, List.nil_append, kil_nil, N_1, o10, o00, exN_0, exN_1, exN_2, exN_3, exN_4, exN_5, Ex]
end MSPAN
