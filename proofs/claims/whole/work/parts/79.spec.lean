/-! THE METHODS' MEANING: the class chooses a channel -/
def mor (g : Nat → Nat) : Nat → Nat
  | 0 => 0
  | n + 1 => mor g n ||| g n
theorem mor_bit {g : Nat → Nat} {c : Nat} : ∀ {n : Nat}, ((mor g n).testBit c = true) ↔ ∃ i, i < n ∧ (g i).testBit c = true
  | 0 => by simp [mor]
  | n + 1 => by
    unfold mor
    rw [Nat.testBit_or, Bool.or_eq_true, mor_bit (n := n)]
    refine ⟨fun h => ?_, fun h => ?_⟩
    · rcases h with ⟨i, h1, h2⟩ | h
      · exact ⟨i, by omega, h2⟩
      · exact ⟨n, by omega, h⟩
    · obtain ⟨i, h1, h2⟩ := h
      by_cases hi : i = n
      · exact Or.inr (hi ▸ h2)
      · exact Or.inl ⟨i, by omega, h2⟩
theorem mor_lt {g : Nat → Nat} {b : Nat} : ∀ {n : Nat}, (∀ i, i < n → g i < 2 ^ b) → mor g n < 2 ^ b
  | 0, _ => Nat.two_pow_pos b
  | n + 1, h => Nat.or_lt_two_pow (mor_lt (fun i hi => h i (by omega))) (h n (by omega))
def chn (V : Vw) (k : Nat) : Nat := (vf V k 3).toNatClampNeg
def sepn (V : Vw) (q : Qy) (k : Nat) : Nat := (sepS V q k).toNatClampNeg
/-- the bounds of what is sought -/
def SB (V : Vw) (q : Qy) (L : List Nat) : Prop := ∀ k, k ∈ L → (∃ c, c < 8 ∧ vf V k 3 = N c) ∧ ∃ s, s < 6 ∧ sepS V q k = N s
theorem sb_n {V : Vw} {q : Qy} {L : List Nat} (h : SB V q L) {k : Nat} (hk : k ∈ L) : (chn V k < 8 ∧ vf V k 3 = N (chn V k)) ∧ sepn V q k < 6 ∧ sepS V q k = N (sepn V q k) := by
  obtain ⟨⟨c, hc, e1⟩, s, hs, e2⟩ := h k hk
  unfold chn sepn
  rw [e1, e2, N_cl (by omega), N_cl (by omega)]
  exact ⟨⟨hc, rfl⟩, hs, rfl⟩
/-- what the i-th of the net shuts to the served -/
def gsv (V : Vw) (q : Qy) (L : List Nat) (i : Nat) : Nat := match L[i]? with | some k => smask (chn V k) (sepn V q k) | none => 0
def omk (V : Vw) (q : Qy) (L : List Nat) : Nat := (255 - mor (gsv V q L) L.length % 256) &&& wm q
theorem shut_lt {a b s c : Nat} (ha : a < 8) (hb : b < 8) (hs : s < 6) : (ab (N a - N b) < N s) = ((if a < b then b - a else a - b) < s) := by
  rw [ab_N a ha b hb, N_lt (by split <;> omega) (by omega)]
theorem wm_lt {q : Qy} (hw : ∀ c, qw q = some c → c < 8) : wm q < 256 := by
  unfold wm
  split
  · decide
  · rename_i c hc
    have := hw c hc
    exact Nat.pow_lt_pow_right (show 1 < 2 by decide) (show c < 8 from this)
theorem omk_lt {V : Vw} {q : Qy} {L : List Nat} : omk V q L < 256 := Nat.lt_of_le_of_lt Nat.and_le_left (by omega)
theorem gsv_lt {V : Vw} {q : Qy} {L : List Nat} (h : SB V q L) (i : Nat) : gsv V q L i < 2 ^ 62 := by
  unfold gsv
  cases hL : L[i]? with
  | none => exact Nat.two_pow_pos 62
  | some k =>
    obtain ⟨⟨a, -⟩, b, -⟩ := sb_n h (ls_get hL).2
    exact smask_lt _ (by omega) _ b
theorem free_bit {V : Vw} {q : Qy} {c : Nat} (h : SB V q (Ls V (qs q))) (hc : c < 8) : freeS V q c = !(mor (gsv V q (Ls V (qs q))) (Ls V (qs q)).length).testBit c := by
  have key : (fs (blk V q c) (vn V) < vn V) ↔ (mor (gsv V q (Ls V (qs q))) (Ls V (qs q)).length).testBit c = true := by
    rw [fs_ex, mor_bit]
    refine ⟨fun hx => ?_, fun hx => ?_⟩
    · obtain ⟨k, hk, hb⟩ := hx
      unfold blk at hb
      rw [Bool.and_eq_true, Bool.and_eq_true, decide_eq_true_eq, decide_eq_true_eq] at hb
      have hm : k ∈ Ls V (qs q) := lsl_mem.mpr ⟨hk, hb.2.1, hb.1⟩
      obtain ⟨i, hi⟩ := List.mem_iff_getElem?.mp hm
      obtain ⟨⟨a1, a2⟩, b1, b2⟩ := sb_n h hm
      refine ⟨i, (ls_get hi).1, ?_⟩
      unfold gsv
      rw [hi]
      show (smask (chn V k) (sepn V q k)).testBit c = true
      rw [smask_bit _ (by omega) _ b1 c (by omega), decide_eq_true_eq, ← shut_lt (c := 0) a1 hc b1, ← a2, ← b2]
      exact hb.2.2
    · obtain ⟨i, hi, hb⟩ := hx
      unfold gsv at hb
      cases hL : (Ls V (qs q))[i]? with
      | none =>
        rw [hL] at hb
        simp at hb
      | some k =>
        rw [hL] at hb
        have hm := (ls_get hL).2
        obtain ⟨⟨a1, a2⟩, b1, b2⟩ := sb_n h hm
        obtain ⟨m1, m2, m3⟩ := lsl_mem.mp hm
        refine ⟨k, m1, ?_⟩
        have hb' : (smask (chn V k) (sepn V q k)).testBit c = true := hb
        rw [smask_bit _ (by omega) _ b1 c (by omega), decide_eq_true_eq, ← shut_lt (c := 0) a1 hc b1, ← a2, ← b2] at hb'
        unfold blk
        rw [Bool.and_eq_true, Bool.and_eq_true, decide_eq_true_eq, decide_eq_true_eq]
        exact ⟨m3, m2, hb'⟩
  unfold freeS
  cases hb : (mor (gsv V q (Ls V (qs q))) (Ls V (qs q)).length).testBit c with
  | true => exact decide_eq_false (fun q2 => q2 (key.mpr hb))
  | false =>
    refine decide_eq_true (fun q2 => ?_)
    rw [key.mp q2] at hb
    cases hb
theorem omk_bit {V : Vw} {q : Qy} {c : Nat} (h : SB V q (Ls V (qs q))) (hc : c < 8) : (omk V q (Ls V (qs q))).testBit c = (decide (qw q = none ∨ qw q = some c) && freeS V q c) := by
  unfold omk
  rw [Nat.testBit_and, openm_bit hc, free_bit h hc, Bool.and_comm]
  refine congrArg (· && _) ?_
  unfold wm
  cases hq : qw q with
  | none =>
    show (255 : Nat).testBit c = _
    have t : ∀ c, c < 8 → (255 : Nat).testBit c = true := by decide
    rw [t c hc]
    simp
  | some w =>
    show (2 ^ w).testBit c = _
    rw [Nat.testBit_two_pow]
    simp
/-- what the i-th of the net adds to the disturbance of the served -/
def dli (V : Vw) (x y c : Int32) (L : List Nat) (i : Nat) : Int32 := match L[i]? with | some k => (if sqv V k x y < V.1.2.2 * V.1.2.2 then dsb (vf V k 3) c else 0) | none => 0
theorem dli_sum {V : Vw} {x y c : Int32} {e : Option Nat} (he : ∀ a, e = some a → a < 100) : ∀ n, n < 100 → sm (dli V x y c (lsl V e n)) (lsl V e n).length = sm (dst1 V x y c (och e)) n
  | 0, _ => rfl
  | n + 1, hn => by
    have ih := dli_sum (V := V) (x := x) (y := y) (c := c) he n (by omega)
    have ee : (N n = och e) = (some n = e) := och_eq (by omega) he
    have el : lsl V e (n + 1) = if vl V n = true ∧ some n ≠ e then lsl V e n ++ [n] else lsl V e n := rfl
    rw [sm_s, ← ih, el]
    by_cases hq : vl V n = true ∧ some n ≠ e
    · rw [if_pos hq, List.length_append]
      show sm (dli V x y c (lsl V e n ++ [n])) ((lsl V e n).length + 1) = _
      rw [sm_s]
      have e1 : sm (dli V x y c (lsl V e n ++ [n])) (lsl V e n).length = sm (dli V x y c (lsl V e n)) (lsl V e n).length := sm_congr (fun i hi => by
        unfold dli
        rw [List.getElem?_append_left hi])
      have e2 : dli V x y c (lsl V e n ++ [n]) (lsl V e n).length = dst1 V x y c (och e) n := by
        unfold dli dst1
        rw [List.getElem?_append_right (Nat.le_refl _), Nat.sub_self, if_neg (by rw [ee]; exact hq.2), if_pos hq.1]
        rfl
      rw [e1, e2]
    · rw [if_neg hq]
      have e2 : dst1 V x y c (och e) n = 0 := by
        unfold dst1
        by_cases h1 : N n = och e
        · rw [if_pos h1]
        · rw [if_neg h1]
          rw [ee] at h1
          rw [if_neg (fun q => hq ⟨q, h1⟩)]
      rw [e2]
      grind
section CHOOSE
variable {d : Nat} {I I' I'' : OId → Nat → Int32} {M R : OId → Nat → AV} {G : SG} {V : Vw} {L : List Nat} {q : Qy}
theorem kl2_1 {v : AV} : kil2 [(1, v)] 1 = [] := rfl
theorem kl_13 {v : AV} : kil [(1, v)] 3 = [(1, v)] := rfl
theorem openToServed_ok (hR : RF R) (hN : NT I V L) (hS : SV I V q L) (hB : SB V q L) (hL7 : L.length ≤ 7) (hw : ∀ c, qw q = some c → c < 8) : evm (d + 2) 71 [aR (8, 0, 0)] (I, M, R, G) = some (.inl (some (aI (N (omk V q L)))), (I, M, R, G)) := by
  rw [m71]
  have hs : ∀ k, k < L.length → ev (evm (d + 1)) 71 4 [some (aR (8, 0, 0)), none, none, some (aI (N k))] [(1, aL (Lg (mor (gsv V q L) k)))] [] (I, M, R, G) = ev (evm (d + 1)) 71 4 [some (aR (8, 0, 0)), none, none, some (aI (N (k + 1)))] [(1, aL (Lg (mor (gsv V q L) (k + 1))))] [] (I, M, R, G) := by
    intro i hi
    obtain ⟨k, hk⟩ : ∃ k, L[i]? = some k := ⟨L[i], List.getElem?_eq_getElem hi⟩
    obtain ⟨⟨a1, a2⟩, b1, b2⟩ := sb_n hB (ls_get hk).2
    have e28 : I (28, 0, 0) i = N (chn V k) := (hN.2 i k hk).2.2.1.trans a2
    have e30 : I (30, 0, 0) i = N (sepn V q k) := (hS.2.2 i k hk).1.trans b2
    have eg : gsv V q L i = smask (chn V k) (sepn V q k) := by unfold gsv; rw [hk]
    have em : mor (gsv V q L) (i + 1) = mor (gsv V q L) i ||| smask (chn V k) (sepn V q k) := by rw [mor, eg]
    rw [s71_4, em]
    simp only [m71, s71_0, s71_1, s71_2, s71_3, s71_5, s71_6, s71_9, s71_12, s71_15, s71_16, s71_17, s71_20, s71_23, s71_24, s71_27, s71_28, s71_31, s71_32, s71_35, s71_38, s71_39, s71_40, s71_43, s71_46, s71_47, s71_50, s71_51, s71_52, s71_55, s71_56, s71_57, s71_58, s71_15 (L2 := [(1, aL (Lg (mor (gsv V q L) i)))]) (x := Lg (mor (gsv V q L) i)) rfl, hR.s.1, hR.s.2.2.1, hR.n.2.2.1, hN.1, N_ge hi (show L.length < 2147483648 by omega), get_N (S := (I, M, R, G)) k28 (fun _ => rfl) (show i < 7 by omega) (by decide), get_N (S := (I, M, R, G)) k30 (fun _ => rfl) (show i < 7 by omega) (by decide), e28, e30, shutBy_ok, shb_N _ (show chn V k < 56 by omega) _ b1, Lg_or, kl2_1, kl_13, if_false, if_true, ck_v, ck_x, Option.toList, List.cons_append, List.nil_append, kil_nil, N_1, o10, o00, exN_0, exN_1, exN_2, exN_3, exN_4, exN_5, Ex]
  have hf : ev (evm (d + 1)) 71 4 [some (aR (8, 0, 0)), none, none, some (aI (N L.length))] [(1, aL (Lg (mor (gsv V q L) L.length)))] [] (I, M, R, G) = some (.inl (some (aI (N (omk V q L)))), (I, M, R, G)) := by
    rw [s71_4]
    simp only [m71, s71_0, s71_1, s71_2, s71_3, s71_5, s71_6, s71_9, s71_12, s71_15, s71_16, s71_17, s71_20, s71_23, s71_24, s71_27, s71_28, s71_31, s71_32, s71_35, s71_38, s71_39, s71_40, s71_43, s71_46, s71_47, s71_50, s71_51, s71_52, s71_55, s71_56, s71_57, s71_58, s71_46 (L2 := [(1, aL (Lg (mor (gsv V q L) L.length)))]) (x := Lg (mor (gsv V q L) L.length)) rfl, hR.s.1, hN.1, N_ge1 (Nat.le_refl L.length) (show L.length < 2147483648 by omega), hS.1, N2L _ (wm_lt hw), openw (wm_lt hw), if_false, if_true, ck_v, ck_x, Option.toList, List.cons_append, List.nil_append, kil_nil, N_1, o10, o00, exN_0, exN_1, exN_2, exN_3, exN_4, exN_5, Ex]
    rfl
  simp only [s71_0, s71_1, s71_2, s71_3, kil2_nil, kl_13]
  exact (iter (f := fun k => ev (evm (d + 1)) 71 4 [some (aR (8, 0, 0)), none, none, some (aI (N k))] [(1, aL (Lg (mor (gsv V q L) k)))] [] (I, M, R, G)) hs).trans hf
theorem hears_ok {i k : Nat} (hR : RF R) (hS : SV I V q L) (hi : i < 7) (hk : L[i]? = some k) : evm (d + 1) 73 [aR (8, 0, 0), aI (N i)] (I, M, R, G) = some (.inl (some (aI (if sqv V k (qx q) (qY q) < V.1.2.2 * V.1.2.2 then 1 else 0))), (I, M, R, G)) := by
  have k31 : kOf (31, 0, 0) = .inr (.boolean, 7) := rfl
  have kb : ∀ r z, kB (31, 0, 0) (N i) r z = z := fun r z => by
    unfold kB
    rw [k31]
    exact if_pos (inB_N hi (by decide))
  have e7 : (Int32.ofNat 7 ≤ N i) = False := N_ge (a := i) (b := 7) hi (by decide)
  have e31 := (hS.2.2 i k hk).2
  by_cases hq : sqv V k (qx q) (qY q) < V.1.2.2 * V.1.2.2
  · rw [if_pos hq] at e31 ⊢
    simp only [m73, s73_0, s73_1, s73_4, s73_5, s73_6, s73_9, s73_10, s73_13, s73_14, s73_17, s73_18, s73_19, s73_22, s73_23, s73_26, s73_27, hR.s.2.2.2.1, N_neg (show i < 2147483648 by omega), kN, k31, e7, kb, N_cl (show i < 2147483648 by omega), e31, if_false, if_true, ck_v, ck_x, Option.toList, List.cons_append, List.nil_append, kil_nil, N_1, o10, o00, exN_0, exN_1, exN_2, exN_3, exN_4, exN_5, Ex, or_true]
  · rw [if_neg hq] at e31 ⊢
    simp only [m73, s73_0, s73_1, s73_4, s73_5, s73_6, s73_9, s73_10, s73_13, s73_14, s73_17, s73_18, s73_19, s73_22, s73_23, s73_26, s73_27, hR.s.2.2.2.1, N_neg (show i < 2147483648 by omega), kN, k31, e7, kb, N_cl (show i < 2147483648 by omega), e31, if_false, if_true, ck_v, ck_x, Option.toList, List.cons_append, List.nil_append, kil_nil, N_1, o10, o00, exN_0, exN_1, exN_2, exN_3, exN_4, exN_5, Ex, true_or]
theorem disturbanceOfServed_ok {c : Int32} (hR : RF R) (hN : NT I V L) (hS : SV I V q L) (hL7 : L.length ≤ 7) : evm (d + 2) 72 [aR (8, 0, 0), aI c] (I, M, R, G) = some (.inl (some (aI (sm (dli V (qx q) (qY q) c L) L.length))), (I, M, R, G)) := by
  rw [m72]
  have hs : ∀ k, k < L.length → ev (evm (d + 1)) 72 4 [some (aR (8, 0, 0)), some (aI c), some (aI (sm (dli V (qx q) (qY q) c L) k)), some (aI (N k))] [] [] (I, M, R, G) = ev (evm (d + 1)) 72 4 [some (aR (8, 0, 0)), some (aI c), some (aI (sm (dli V (qx q) (qY q) c L) (k + 1))), some (aI (N (k + 1)))] [] [] (I, M, R, G) := by
    intro i hi
    obtain ⟨k, hk⟩ : ∃ k, L[i]? = some k := ⟨L[i], List.getElem?_eq_getElem hi⟩
    have e28 := (hN.2 i k hk).2.2.1
    have eg : dli V (qx q) (qY q) c L i = if sqv V k (qx q) (qY q) < V.1.2.2 * V.1.2.2 then dsb (vf V k 3) c else 0 := by unfold dli; rw [hk]
    have hh := hears_ok (d := d) (M := M) (G := G) hR hS (show i < 7 by omega) hk
    rw [s72_4, sm_s, eg]
    by_cases hq : sqv V k (qx q) (qY q) < V.1.2.2 * V.1.2.2
    · rw [if_pos hq] at hh ⊢
      simp only [m72, s72_0, s72_1, s72_2, s72_3, s72_5, s72_6, s72_9, s72_12, s72_15, s72_16, s72_17, s72_18, s72_21, s72_24, s72_25, s72_28, s72_31, s72_32, s72_35, s72_36, s72_39, s72_42, s72_43, s72_44, s72_45, s72_48, s72_51, s72_52, hR.s.1, hR.n.2.2.1, hN.1, N_ge hi (show L.length < 2147483648 by omega), hh, get_N (S := (I, M, R, G)) k28 (fun _ => rfl) (show i < 7 by omega) (by decide), e28, disturbs_ok, if_false, if_true, ck_v, ck_x, Option.toList, List.cons_append, List.nil_append, kil_nil, N_1, o10, o00, exN_0, exN_1, exN_2, exN_3, exN_4, exN_5, Ex]
    · rw [if_neg hq] at hh ⊢
      simp only [m72, s72_0, s72_1, s72_2, s72_3, s72_5, s72_6, s72_9, s72_12, s72_15, s72_16, s72_17, s72_18, s72_21, s72_24, s72_25, s72_28, s72_31, s72_32, s72_35, s72_36, s72_39, s72_42, s72_43, s72_44, s72_45, s72_48, s72_51, s72_52, hR.s.1, hR.n.2.2.1, hN.1, N_ge hi (show L.length < 2147483648 by omega), hh, if_false, if_true, ck_v, ck_x, Option.toList, List.cons_append, List.nil_append, kil_nil, N_1, o10, o00, exN_0, exN_1, exN_2, exN_3, exN_4, exN_5, Ex]
  have hf : ev (evm (d + 1)) 72 4 [some (aR (8, 0, 0)), some (aI c), some (aI (sm (dli V (qx q) (qY q) c L) L.length)), some (aI (N L.length))] [] [] (I, M, R, G) = some (.inl (some (aI (sm (dli V (qx q) (qY q) c L) L.length))), (I, M, R, G)) := by
    rw [s72_4]
    simp only [m72, s72_0, s72_1, s72_2, s72_3, s72_5, s72_6, s72_9, s72_12, s72_15, s72_16, s72_17, s72_18, s72_21, s72_24, s72_25, s72_28, s72_31, s72_32, s72_35, s72_36, s72_39, s72_42, s72_43, s72_44, s72_45, s72_48, s72_51, s72_52, hR.s.1, hN.1, N_ge1 (Nat.le_refl L.length) (show L.length < 2147483648 by omega), if_false, if_true, ck_v, ck_x, Option.toList, List.cons_append, List.nil_append, kil_nil, N_1, o10, o00, exN_0, exN_1, exN_2, exN_3, exN_4, exN_5, Ex]
  simp only [s72_0, s72_1, s72_2, s72_3, kil_nil]
  exact (iter (f := fun k => ev (evm (d + 1)) 72 4 [some (aR (8, 0, 0)), some (aI c), some (aI (sm (dli V (qx q) (qY q) c L) k)), some (aI (N k))] [] [] (I, M, R, G)) hs).trans hf
theorem setI_setI {o : OId} {f : Nat} {x y : Int32} : setI (setI I o f x) o f y = setI I o f y := by
  funext p g
  by_cases hp : p = o
  · subst hp
    rw [setI_at, setI_at, setI_at]
    split <;> rfl
  · rw [setI_ne hp, setI_ne hp, setI_ne hp]
theorem NT.p8 {f : Nat} {x : Int32} (h : NT I V L) : NT (setI I (7, 8, 0) f x) V L := h.fr (setI_ne (by simp)) (setI_ne (by simp)) (setI_ne (by simp)) (setI_ne (by simp)) (setI_ne (by simp))
theorem SV.fr (h : SV I V q L) (h8 : I' (8, 0, 0) = I (8, 0, 0)) (h30 : I' (30, 0, 0) = I (30, 0, 0)) (h31 : I' (31, 0, 0) = I (31, 0, 0)) : SV I' V q L := by
  unfold SV SVs
  rw [h8, h30, h31]
  exact h
theorem SV.p8 {f : Nat} {x : Int32} (h : SV I V q L) : SV (setI I (7, 8, 0) f x) V q L := h.fr (setI_ne (by simp)) (setI_ne (by simp)) (setI_ne (by simp))
theorem chooseChannel_ok (hR : RF R) (hN : NT I V (Ls V (qs q))) (hS : SV I V q (Ls V (qs q))) (hB : SB V q (Ls V (qs q))) (hQ : QB V q) (h7 : vn V ≤ 7) : evm (d + 3) 70 [aR (8, 0, 0)] (I, M, R, G) = some (.inl (some (aI (if bestC V q = none then 0 else 1))), (setI I (7, 8, 0) 1 (och (bestC V q)), M, R, G)) := by
  have hl7 := ls_7 (V := V) (e := qs q) h7
  obtain ⟨om, hom⟩ : ∃ om, om = omk V q (Ls V (qs q)) := ⟨_, rfl⟩
  have hom8 : om < 256 := by rw [hom]; exact omk_lt
  obtain ⟨co, hco⟩ : ∃ co : Nat → Int32, co = fun c => sm (dli V (qx q) (qY q) (N c) (Ls V (qs q))) (Ls V (qs q)).length := ⟨_, rfl⟩
  have hbest : bestC V q = bestf (fun c => om.testBit c) co 8 := by
    unfold bestC
    refine bestf_congr (fun c hc => ⟨?_, ?_⟩)
    · rw [hom, omk_bit hB hc]
    · rw [hco]
      exact (dli_sum (hQ.s h7) (vn V) (by omega)).symm
  have hd : ∀ c, c < 8 → ∀ J, NT J V (Ls V (qs q)) → SV J V q (Ls V (qs q)) → evm (d + 2) 72 [aR (8, 0, 0), aI (N c)] (J, M, R, G) = some (.inl (some (aI (co c))), (J, M, R, G)) := fun c _ J hN hS => by
    rw [hco]
    exact disturbanceOfServed_ok hR hN hS hl7
  rw [hbest]
  have hot := openToServed_ok (d := d) (M := M) (G := G) hR hN hS hB hl7 hQ.2.1
  rw [← hom] at hot
  rw [m70]
  simp only [s70_0, s70_1, s70_4, s70_5, s70_6, s70_7, s70_8, s70_11, s70_12, s70_15, s70_16, hR.s.2.1, hot, if_false, if_true, ck_v, ck_x, Option.toList, List.cons_append, List.nil_append, kil_nil, N_1, o10, o00, exN_0, exN_1, exN_2, exN_3, exN_4, exN_5, Ex]
  refine loopJ (n := 8) (f := fun k (b : Option AV) => ev (evm (d + 2)) 70 17 [some (aR (8, 0, 0)), some (aI (N om)), some (aI (oco co (bestf (fun c => om.testBit c) co k))), some (aI (N k)), b] [] [] (setI I (7, 8, 0) 1 (och (bestf (fun c => om.testBit c) co k)), M, R, G)) ?_ ?_ none
  · intro k b hk
    have e8 : ((8 : Int32) ≤ N k) = False := N_ge (a := k) (b := 8) hk (by decide)
    have eh := fun (S : SS) => has_ok (d := d + 1) (S := S) (m := om) (c := k) (by omega) (by omega)
    have hdk := hd k hk _ (hN.p8 (f := 1) (x := och (bestf (fun c => om.testBit c) co k))) (hS.p8 (f := 1) (x := och (bestf (fun c => om.testBit c) co k)))
    have e71 : setI I (7, 8, 0) 1 (och (bestf (fun c => om.testBit c) co k)) (7, 8, 0) 1 = och (bestf (fun c => om.testBit c) co k) := by rw [setI_at, if_pos rfl]
    cases hb : om.testBit k with
    | false =>
      have e : bestf (fun c => om.testBit c) co (k + 1) = bestf (fun c => om.testBit c) co k := by
        rw [bestf]
        simp [hb]
      rw [e]
      refine ⟨b, ?_⟩
      rw [s70_17]
      simp only [m70, s70_0, s70_1, s70_4, s70_5, s70_6, s70_7, s70_8, s70_11, s70_12, s70_15, s70_16, s70_18, s70_20, s70_23, s70_24, s70_25, s70_26, s70_29, s70_32, s70_33, s70_34, s70_37, s70_39, s70_40, s70_43, s70_46, s70_47, s70_50, s70_52, s70_53, s70_56, s70_57, s70_60, s70_61, s70_64, s70_66, s70_67, s70_70, s70_73, s70_74, s70_77, s70_80, s70_81, s70_84, s70_85, s70_88, s70_89, e8, N2L om hom8, eh, hb, Bool.false_eq_true, if_false, if_true, ck_v, ck_x, Option.toList, List.cons_append, List.nil_append, kil_nil, N_1, o10, o00, exN_0, exN_1, exN_2, exN_3, exN_4, exN_5, Ex]
    | true =>
      refine ⟨some (aI (co k)), ?_⟩
      cases hq : bestf (fun c => om.testBit c) co k with
      | none =>
        rw [hq] at hdk e71
        have hdk : evm (d + 2) 72 [aR (8, 0, 0), aI (N k)] (setI I (7, 8, 0) 1 (-1), M, R, G) = some (.inl (some (aI (co k))), (setI I (7, 8, 0) 1 (-1), M, R, G)) := hdk
        have e71 : setI I (7, 8, 0) 1 (-1) (7, 8, 0) 1 = -1 := e71
        have e : bestf (fun c => om.testBit c) co (k + 1) = some k := by
          rw [bestf, hq]
          simp [hb]
        rw [e, s70_17]
        simp only [m70, s70_0, s70_1, s70_4, s70_5, s70_6, s70_7, s70_8, s70_11, s70_12, s70_15, s70_16, s70_18, s70_20, s70_23, s70_24, s70_25, s70_26, s70_29, s70_32, s70_33, s70_34, s70_37, s70_39, s70_40, s70_43, s70_46, s70_47, s70_50, s70_52, s70_53, s70_56, s70_57, s70_60, s70_61, s70_64, s70_66, s70_67, s70_70, s70_73, s70_74, s70_77, s70_80, s70_81, s70_84, s70_85, s70_88, s70_89, e8, N2L om hom8, eh, hb, hdk, hR.s.2.1, e71, show och none = -1 from rfl, setI_setI, if_false, if_true, ck_v, ck_x, Option.toList, List.cons_append, List.nil_append, kil_nil, N_1, o10, o00, exN_0, exN_1, exN_2, exN_3, exN_4, exN_5, Ex]
        rfl
      | some c =>
        rw [hq] at hdk e71
        have hdk : evm (d + 2) 72 [aR (8, 0, 0), aI (N k)] (setI I (7, 8, 0) 1 (N c), M, R, G) = some (.inl (some (aI (co k))), (setI I (7, 8, 0) 1 (N c), M, R, G)) := hdk
        have e71 : setI I (7, 8, 0) 1 (N c) (7, 8, 0) 1 = N c := e71
        have hc8 : c < k := (bestf_lt hq).1
        have e : bestf (fun c => om.testBit c) co (k + 1) = if co k < co c then some k else some c := by
          rw [bestf, hq]
          by_cases h2 : co k < co c <;> simp [hb, h2]
        rw [e]
        by_cases h2 : co k < co c
        · rw [if_pos h2, s70_17]
          simp only [m70, s70_0, s70_1, s70_4, s70_5, s70_6, s70_7, s70_8, s70_11, s70_12, s70_15, s70_16, s70_18, s70_20, s70_23, s70_24, s70_25, s70_26, s70_29, s70_32, s70_33, s70_34, s70_37, s70_39, s70_40, s70_43, s70_46, s70_47, s70_50, s70_52, s70_53, s70_56, s70_57, s70_60, s70_61, s70_64, s70_66, s70_67, s70_70, s70_73, s70_74, s70_77, s70_80, s70_81, s70_84, s70_85, s70_88, s70_89, e8, N2L om hom8, eh, hb, hdk, hR.s.2.1, e71, show och (some c) = N c from rfl, m1N (show c < 2147483648 by omega), show oco co (some c) = co c from rfl, ite_le, if_pos h2, setI_setI, if_false, if_true, ck_v, ck_x, Option.toList, List.cons_append, List.nil_append, kil_nil, N_1, o10, o00, exN_0, exN_1, exN_2, exN_3, exN_4, exN_5, Ex]
          rfl
        · rw [if_neg h2, s70_17]
          simp only [m70, s70_0, s70_1, s70_4, s70_5, s70_6, s70_7, s70_8, s70_11, s70_12, s70_15, s70_16, s70_18, s70_20, s70_23, s70_24, s70_25, s70_26, s70_29, s70_32, s70_33, s70_34, s70_37, s70_39, s70_40, s70_43, s70_46, s70_47, s70_50, s70_52, s70_53, s70_56, s70_57, s70_60, s70_61, s70_64, s70_66, s70_67, s70_70, s70_73, s70_74, s70_77, s70_80, s70_81, s70_84, s70_85, s70_88, s70_89, e8, N2L om hom8, eh, hb, hdk, hR.s.2.1, e71, show och (some c) = N c from rfl, m1N (show c < 2147483648 by omega), show oco co (some c) = co c from rfl, ite_le, if_neg h2, setI_setI, if_false, if_true, ck_v, ck_x, Option.toList, List.cons_append, List.nil_append, kil_nil, N_1, o10, o00, exN_0, exN_1, exN_2, exN_3, exN_4, exN_5, Ex]
  · intro b
    have e8 : ((8 : Int32) ≤ N 8) = True := N_ge1 (a := 8) (b := 8) (Nat.le_refl _) (by decide)
    have e71 : setI I (7, 8, 0) 1 (och (bestf (fun c => om.testBit c) co 8)) (7, 8, 0) 1 = och (bestf (fun c => om.testBit c) co 8) := by rw [setI_at, if_pos rfl]
    rw [s70_17]
    cases hq : bestf (fun c => om.testBit c) co 8 with
    | none =>
      rw [hq] at e71
      have e71 : setI I (7, 8, 0) 1 (-1) (7, 8, 0) 1 = -1 := e71
      simp only [m70, s70_0, s70_1, s70_4, s70_5, s70_6, s70_7, s70_8, s70_11, s70_12, s70_15, s70_16, s70_18, s70_20, s70_23, s70_24, s70_25, s70_26, s70_29, s70_32, s70_33, s70_34, s70_37, s70_39, s70_40, s70_43, s70_46, s70_47, s70_50, s70_52, s70_53, s70_56, s70_57, s70_60, s70_61, s70_64, s70_66, s70_67, s70_70, s70_73, s70_74, s70_77, s70_80, s70_81, s70_84, s70_85, s70_88, s70_89, e8, hR.s.2.1, e71, show och none = -1 from rfl, if_false, if_true, ck_v, ck_x, Option.toList, List.cons_append, List.nil_append, kil_nil, N_1, o10, o00, exN_0, exN_1, exN_2, exN_3, exN_4, exN_5, Ex, true_or]
    | some c =>
      rw [hq] at e71
      have hc8 := (bestf_lt hq).1
      have e71 : setI I (7, 8, 0) 1 (N c) (7, 8, 0) 1 = N c := e71
      simp only [m70, s70_0, s70_1, s70_4, s70_5, s70_6, s70_7, s70_8, s70_11, s70_12, s70_15, s70_16, s70_18, s70_20, s70_23, s70_24, s70_25, s70_26, s70_29, s70_32, s70_33, s70_34, s70_37, s70_39, s70_40, s70_43, s70_46, s70_47, s70_50, s70_52, s70_53, s70_56, s70_57, s70_60, s70_61, s70_64, s70_66, s70_67, s70_70, s70_73, s70_74, s70_77, s70_80, s70_81, s70_84, s70_85, s70_88, s70_89, e8, hR.s.2.1, e71, show och (some c) = N c from rfl, m1N (show c < 2147483648 by omega), if_false, if_true, ck_v, ck_x, Option.toList, List.cons_append, List.nil_append, kil_nil, N_1, o10, o00, exN_0, exN_1, exN_2, exN_3, exN_4, exN_5, Ex, or_true]
      rfl
end CHOOSE
