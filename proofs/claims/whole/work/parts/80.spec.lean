/-! THE METHODS' MEANING: the class's moves -/
def gnw (V : Vw) (L : List Nat) (i k j : Nat) : Nat := match L[j]? with | some m => (if j = i then 0 else smask (chn V m) (spv V k m).toNatClampNeg) | none => 0
def opn (V : Vw) (L : List Nat) (i k : Nat) : Nat := 255 - mor (gnw V L i k) L.length % 256
theorem wv_ch {V : Vw} {k c : Nat} (h : WV V) (hc : c < 8) : WV (chV V k c) := by
  obtain ⟨hr, h7, hf, hcm, hi⟩ := h
  refine ⟨hr, h7, fun j hj => ?_, hcm, fun a b ha hb q => ?_⟩
  · obtain ⟨h1, h2, h3⟩ := hf j hj
    have e1 : vf (chV V k c) j 1 = vf V j 1 := if_neg (by omega)
    have e2 : vf (chV V k c) j 2 = vf V j 2 := if_neg (by omega)
    rw [e1, e2]
    refine ⟨h1, h2, ?_⟩
    by_cases hq : j = k
    · exact ⟨c, hc, if_pos ⟨hq, rfl⟩⟩
    · obtain ⟨x, hx, e⟩ := h3
      exact ⟨x, hx, (if_neg (fun q => hq q.1)).trans e⟩
  · have e1 : vf (chV V k c) a 0 = vf V a 0 := if_neg (by omega)
    have e2 : vf (chV V k c) b 0 = vf V b 0 := if_neg (by omega)
    rw [e1, e2] at q
    exact hi a b ha hb q
theorem lsl_ch {V : Vw} {k c : Nat} {e : Option Nat} : ∀ n, lsl (chV V k c) e n = lsl V e n
  | 0 => rfl
  | n + 1 => by
    have el : lsl (chV V k c) e (n + 1) = if vl V n = true ∧ some n ≠ e then lsl (chV V k c) e n ++ [n] else lsl (chV V k c) e n := rfl
    rw [el, lsl_ch n]
    rfl
theorem ls_ch {V : Vw} {k c : Nat} {e : Option Nat} : Ls (chV V k c) e = Ls V e := lsl_ch _
theorem sqv_ch {V : Vw} {k c j : Nat} {x y : Int32} : sqv (chV V k c) j x y = sqv V j x y := by
  have e1 : vf (chV V k c) j 1 = vf V j 1 := if_neg (by omega)
  have e2 : vf (chV V k c) j 2 = vf V j 2 := if_neg (by omega)
  unfold sqv
  rw [e1, e2]
theorem sepS_ch {V : Vw} {k c j : Nat} {q : Qy} : sepS (chV V k c) q j = sepS V q j := by
  have e : bsv (chV V k c) j (qx q) (qY q) = bsv V j (qx q) (qY q) := by
    unfold bsv
    rw [sqv_ch]
    rfl
  unfold sepS
  rw [e]
  rfl
theorem spv_ch {V : Vw} {k c a b : Nat} : spv (chV V k c) a b = spv V a b := by
  have e1 : vf (chV V k c) b 1 = vf V b 1 := if_neg (by omega)
  have e2 : vf (chV V k c) b 2 = vf V b 2 := if_neg (by omega)
  have e : bs2 (chV V k c) a b = bs2 V a b := by
    unfold bs2
    rw [e1, e2]
    unfold bsv
    rw [sqv_ch]
    rfl
  show bs2 (chV V k c) a b + vc V a b = bs2 V a b + vc V a b
  rw [e]
theorem sb_of {V : Vw} {q : Qy} (h : WV V) (hQ : QB V q) : SB V q (Ls V (qs q)) := fun k hk => by
  have hkn := ls_m k hk
  refine ⟨h.ch hkn, ?_⟩
  unfold sepS
  obtain ⟨w, hw, e⟩ := bse_N V.1.1 V.1.2.1 V.1.2.2 (sqv V k (qx q) (qY q))
  have eb : bsv V k (qx q) (qY q) = N w := e
  cases hs : qs q with
  | none =>
    refine ⟨w, by omega, ?_⟩
    show bsv V k (qx q) (qY q) + 0 = _
    rw [eb]
    grind
  | some a =>
    obtain ⟨⟨u, hu, e2⟩, -⟩ := h.2.2.2.1 a k (hQ.1 a hs) hkn
    refine ⟨w + u, by omega, ?_⟩
    show bsv V k (qx q) (qY q) + vc V a k = _
    rw [eb, e2, N_add]
theorem gs_snoc {α : Type} {f : Nat → Option α} : ∀ {r s : Nat}, gs f (r + 1) s = match gs f r s with | some a => some a | none => f (s + r)
  | 0, s => by
    show (match f s with | some a => some a | none => none) = f (s + 0)
    cases hf : f s with
    | none => rfl
    | some a => rfl
  | r + 1, s => by
    have ih := gs_snoc (f := f) (r := r) (s := s + 1)
    show (match f s with | some a => some a | none => gs f (r + 1) (s + 1)) = _
    rw [show gs f (r + 1) s = (match f s with | some a => some a | none => gs f r (s + 1)) from rfl]
    cases hf : f s with
    | some a => rfl
    | none =>
      show gs f (r + 1) (s + 1) = (match gs f r (s + 1) with | some a => some a | none => f (s + (r + 1)))
      rw [ih, show s + 1 + r = s + (r + 1) by omega]
theorem gs_no {α : Type} {f : Nat → Option α} : ∀ {r s : Nat}, (∀ k, s ≤ k → k < s + r → f k = none) → gs f r s = none
  | 0, s, _ => rfl
  | r + 1, s, h => by
    unfold gs
    rw [h s (Nat.le_refl _) (by omega)]
    exact gs_no (fun k h1 h2 => h k (by omega) (by omega))
theorem gs_ls {α : Type} {F : Nat → Option α} {V : Vw} {e : Option Nat} : ∀ n, (∀ k, k < n → ¬ (vl V k = true ∧ some k ≠ e) → F k = none) → gs F n 0 = gs (fun i => match (lsl V e n)[i]? with | some k => F k | none => none) (lsl V e n).length 0
  | 0, _ => rfl
  | n + 1, h => by
    have ih := gs_ls (F := F) (V := V) (e := e) n (fun k hk => h k (by omega))
    have el : lsl V e (n + 1) = if vl V n = true ∧ some n ≠ e then lsl V e n ++ [n] else lsl V e n := rfl
    rw [gs_snoc, ih, el, Nat.zero_add]
    by_cases hq : vl V n = true ∧ some n ≠ e
    · rw [if_pos hq, List.length_append]
      show _ = gs _ ((lsl V e n).length + 1) 0
      rw [gs_snoc, Nat.zero_add]
      have e1 : gs (fun i => match (lsl V e n ++ [n])[i]? with | some k => F k | none => none) (lsl V e n).length 0 = gs (fun i => match (lsl V e n)[i]? with | some k => F k | none => none) (lsl V e n).length 0 := gs_congr (fun i _ hi => by
        rw [List.getElem?_append_left (by omega)])
      rw [e1, List.getElem?_append_right (Nat.le_refl _), Nat.sub_self]
      rfl
    · rw [if_neg hq, h n (by omega) hq]
      cases gs (fun i => match (lsl V e n)[i]? with | some k => F k | none => none) (lsl V e n).length 0 <;> rfl
theorem can_bit {V : Vw} {q : Qy} {i k c : Nat} (hW : WV V) (hi : (Ls V (qs q))[i]? = some k) (ht : some k ≠ qt q) (hc : c < 8) : (opn V (Ls V (qs q)) i k &&& (255 - 2 ^ chn V k)).testBit c = canM V q k c := by
  have hm := (ls_get hi).2
  obtain ⟨m1, m2, m3⟩ := lsl_mem.mp hm
  obtain ⟨f, hf, ef⟩ := hW.ch m1
  have ecf : chn V k = f := by unfold chn; rw [ef, N_cl (by omega)]
  have hsp : ∀ j, j < vn V → (spv V k j).toNatClampNeg < 6 ∧ spv V k j = N (spv V k j).toNatClampNeg := fun j hj => by
    obtain ⟨w, hw, e⟩ := hW.sp m1 hj
    rw [e, N_cl (by omega)]
    exact ⟨hw, rfl⟩
  have hch : ∀ j, j < vn V → chn V j < 8 ∧ vf V j 3 = N (chn V j) := fun j hj => by
    obtain ⟨w, hw, e⟩ := hW.ch hj
    unfold chn
    rw [e, N_cl (by omega)]
    exact ⟨hw, rfl⟩
  have key : (fs (canb V q k c) (vn V) < vn V) ↔ (mor (gnw V (Ls V (qs q)) i k) (Ls V (qs q)).length).testBit c = true := by
    rw [fs_ex, mor_bit]
    refine ⟨fun hx => ?_, fun hx => ?_⟩
    · obtain ⟨j, hj, hb⟩ := hx
      unfold canb at hb
      rw [Bool.and_eq_true, Bool.and_eq_true, Bool.and_eq_true, decide_eq_true_eq, decide_eq_true_eq, decide_eq_true_eq] at hb
      obtain ⟨g1, g2, g3, g4⟩ := hb
      have hmj : j ∈ Ls V (qs q) := lsl_mem.mpr ⟨hj, g3, g2⟩
      obtain ⟨x, hx⟩ := List.mem_iff_getElem?.mp hmj
      have hxi : x ≠ i := fun q => g1 (by rw [q, hi] at hx; cases hx; rfl)
      obtain ⟨s1, s2⟩ := hsp j hj
      obtain ⟨c1, c2⟩ := hch j hj
      refine ⟨x, (ls_get hx).1, ?_⟩
      unfold gnw
      rw [hx]
      show (if x = i then 0 else smask (chn V j) (spv V k j).toNatClampNeg).testBit c = true
      rw [if_neg hxi, smask_bit _ (by omega) _ s1 c (by omega), decide_eq_true_eq, ← shut_lt (c := 0) c1 hc s1, ← c2, ← s2, ← spm_v]
      exact g4
    · obtain ⟨x, hx, hb⟩ := hx
      unfold gnw at hb
      cases hL : (Ls V (qs q))[x]? with
      | none =>
        rw [hL] at hb
        simp at hb
      | some j =>
        rw [hL] at hb
        have hb' : (if x = i then 0 else smask (chn V j) (spv V k j).toNatClampNeg).testBit c = true := hb
        by_cases hxi : x = i
        · rw [if_pos hxi] at hb'
          simp at hb'
        · rw [if_neg hxi] at hb'
          obtain ⟨n1, n2, n3⟩ := lsl_mem.mp (ls_get hL).2
          obtain ⟨s1, s2⟩ := hsp j n1
          obtain ⟨c1, c2⟩ := hch j n1
          rw [smask_bit _ (by omega) _ s1 c (by omega), decide_eq_true_eq, ← shut_lt (c := 0) c1 hc s1, ← c2, ← s2, ← spm_v] at hb'
          refine ⟨j, n1, ?_⟩
          unfold canb
          rw [Bool.and_eq_true, Bool.and_eq_true, Bool.and_eq_true, decide_eq_true_eq, decide_eq_true_eq, decide_eq_true_eq]
          exact ⟨fun q => hxi (lsl_inj (q ▸ hL) hi), n3, n2, hb'⟩
  have ho8 : opn V (Ls V (qs q)) i k < 256 := by unfold opn; omega
  rw [ecf, clr_bit _ ho8 f hf c hc]
  unfold opn
  rw [openm_bit hc]
  have e1 : decide (vf V k 3 ≠ N c) = decide (c ≠ f) := by
    rw [ef]
    by_cases hcf : c = f
    · subst hcf
      simp
    · have : ¬ N f = N c := by
        rw [N_inj (by omega) (by omega)]
        omega
      simp [hcf, this]
  unfold canM
  rw [decide_eq_true m3, decide_eq_true ht, m2, e1, Bool.true_and, Bool.true_and, Bool.true_and]
  cases hb : (mor (gnw V (Ls V (qs q)) i k) (Ls V (qs q)).length).testBit c with
  | true =>
    have hn2 : decide (¬ fs (canb V q k c) (vn V) < vn V) = false := decide_eq_false (fun q2 => q2 (key.mpr hb))
    rw [hn2, Bool.and_false]; rfl
  | false =>
    have hn : ¬ fs (canb V q k c) (vn V) < vn V := fun q2 => by
      rw [key.mp q2] at hb
      cases hb
    rw [decide_eq_true hn, Bool.and_true, Bool.not_false, Bool.true_and]
section CMOVES
variable {d : Nat} {I I' I'' : OId → Nat → Int32} {M R : OId → Nat → AV} {G : SG} {V : Vw} {L : List Nat} {q : Qy}
theorem kl2_2 {v : AV} : kil2 [(2, v)] 2 = [] := rfl
theorem kl_24 {v : AV} : kil [(2, v)] 4 = [(2, v)] := rfl
theorem apart_ok {i j : Nat} (hR : RF R) (hi : i < 7) (hj : j < 7) : evm (d + 2) 39 [aR (6, 0, 0), aI (N i), aI (N j)] (I, M, R, G) = some (.inl (some (aI (I (29, 0, 0) (7 * i + j)))), (I, M, R, G)) := by
  simp only [m39, s39_0, s39_1, s39_4, s39_5, s39_6, s39_9, s39_12, hR.n.2.2.2, pair_N hi hj, get_N (S := (I, M, R, G)) k29 (fun _ => rfl) (show 7 * i + j < 49 by omega) (by decide), if_false, if_true, ck_v, ck_x, Option.toList, List.cons_append, List.nil_append, kil_nil, N_1, o10, o00, exN_0, exN_1, exN_2, exN_3, exN_4, exN_5, Ex]
theorem openTo_ok {i k : Nat} (hR : RF R) (hW : WV V) (hN : NT I V L) (hL7 : L.length ≤ 7) (hm : ∀ k, k ∈ L → k < vn V) (hi : L[i]? = some k) : evm (d + 3) 76 [aR (6, 0, 0), aI (N i)] (I, M, R, G) = some (.inl (some (aI (N (opn V L i k)))), (I, M, R, G)) := by
  have hil := (ls_get hi).1
  have hkn := hm k (ls_get hi).2
  rw [m76]
  have hs : ∀ j, j < L.length → ev (evm (d + 2)) 76 5 [some (aR (6, 0, 0)), some (aI (N i)), none, none, some (aI (N j))] [(2, aL (Lg (mor (gnw V L i k) j)))] [] (I, M, R, G) = ev (evm (d + 2)) 76 5 [some (aR (6, 0, 0)), some (aI (N i)), none, none, some (aI (N (j + 1)))] [(2, aL (Lg (mor (gnw V L i k) (j + 1))))] [] (I, M, R, G) := by
    intro j hj
    obtain ⟨m, hjm⟩ : ∃ m, L[j]? = some m := ⟨L[j], List.getElem?_eq_getElem hj⟩
    have hmn := hm m (ls_get hjm).2
    have ej : (N j = N i) = (j = i) := N_inj (by omega) (by omega)
    have em : mor (gnw V L i k) (j + 1) = mor (gnw V L i k) j ||| (if j = i then 0 else smask (chn V m) (spv V k m).toNatClampNeg) := by
      rw [mor]
      refine congrArg _ ?_
      unfold gnw
      rw [hjm]
    rw [s76_5, em]
    by_cases hji : j = i
    · have ej' : (N j = N i) = True := by rw [ej]; exact eq_true hji
      rw [if_pos hji, Nat.or_zero]
      simp only [m76, s76_0, s76_1, s76_2, s76_3, s76_7, s76_8, s76_11, s76_14, s76_16, s76_17, s76_20, s76_21, s76_22, s76_25, s76_27, s76_30, s76_31, s76_32, s76_34, s76_37, s76_40, s76_41, s76_42, s76_45, s76_48, s76_49, s76_52, s76_53, s76_56, s76_57, s76_58, hN.1, N_ge hj (show L.length < 2147483648 by omega), ej', kl_24, if_false, if_true, ck_v, ck_x, Option.toList, List.cons_append, List.nil_append, kil_nil, N_1, o10, o00, exN_0, exN_1, exN_2, exN_3, exN_4, exN_5, Ex]
    · have ej' : (N j = N i) = False := by rw [ej]; exact eq_false hji
      rw [if_neg hji]
      obtain ⟨c, hc, ec⟩ := hW.ch hmn
      obtain ⟨w, hw, ew⟩ := hW.sp hkn hmn
      have ech : chn V m = c := by unfold chn; rw [ec, N_cl (by omega)]
      have esp : (spv V k m).toNatClampNeg = w := by rw [ew, N_cl (by omega)]
      have e28 : I (28, 0, 0) j = N c := (hN.2 j m hjm).2.2.1.trans ec
      have e29 : I (29, 0, 0) (7 * i + j) = N w := ((hN.2 i k hi).2.2.2 j m hjm hji).trans ew
      rw [ech, esp]
      simp only [m76, s76_0, s76_1, s76_2, s76_3, s76_7, s76_8, s76_11, s76_14, s76_16, s76_17, s76_20, s76_21, s76_22, s76_25, s76_27, s76_30, s76_31, s76_32, s76_34, s76_37, s76_40, s76_41, s76_42, s76_45, s76_48, s76_49, s76_52, s76_53, s76_56, s76_57, s76_58, s76_20 (L2 := [(2, aL (Lg (mor (gnw V L i k) j)))]) (x := Lg (mor (gnw V L i k) j)) rfl, hR.n.2.2.1, hN.1, N_ge hj (show L.length < 2147483648 by omega), ej', get_N (S := (I, M, R, G)) k28 (fun _ => rfl) (show j < 7 by omega) (by decide), apart_ok hR (show i < 7 by omega) (show j < 7 by omega), e28, e29, shutBy_ok, shb_N _ (show c < 56 by omega) _ hw, Lg_or, kl2_2, kl_24, if_false, if_true, ck_v, ck_x, Option.toList, List.cons_append, List.nil_append, kil_nil, N_1, o10, o00, exN_0, exN_1, exN_2, exN_3, exN_4, exN_5, Ex]
  have hf : ev (evm (d + 2)) 76 5 [some (aR (6, 0, 0)), some (aI (N i)), none, none, some (aI (N L.length))] [(2, aL (Lg (mor (gnw V L i k) L.length)))] [] (I, M, R, G) = some (.inl (some (aI (N (opn V L i k)))), (I, M, R, G)) := by
    rw [s76_5]
    simp only [m76, s76_0, s76_1, s76_2, s76_3, s76_7, s76_8, s76_11, s76_14, s76_16, s76_17, s76_20, s76_21, s76_22, s76_25, s76_27, s76_30, s76_31, s76_32, s76_34, s76_37, s76_40, s76_41, s76_42, s76_45, s76_48, s76_49, s76_52, s76_53, s76_56, s76_57, s76_58, s76_48 (L2 := [(2, aL (Lg (mor (gnw V L i k) L.length)))]) (x := Lg (mor (gnw V L i k) L.length)) rfl, hN.1, N_ge1 (Nat.le_refl L.length) (show L.length < 2147483648 by omega), openm, if_false, if_true, ck_v, ck_x, Option.toList, List.cons_append, List.nil_append, kil_nil, N_1, o10, o00, exN_0, exN_1, exN_2, exN_3, exN_4, exN_5, Ex]
    rfl
  simp only [s76_0, s76_1, s76_2, s76_3, kil2_nil, kl_24]
  exact (iter (f := fun j => ev (evm (d + 2)) 76 5 [some (aR (6, 0, 0)), some (aI (N i)), none, none, some (aI (N j))] [(2, aL (Lg (mor (gnw V L i k) j)))] [] (I, M, R, G)) hs).trans hf
theorem k22 : kOf (22, 8, 0) = .inr (.int, 2) := rfl
theorem k23 : kOf (23, 8, 0) = .inr (.int, 2) := rfl
theorem k24 : kOf (24, 8, 0) = .inr (.int, 2) := rfl
def smI (I : OId → Nat → Int32) (m : Nat) (a b c : Int32) : OId → Nat → Int32 := setI (setI (setI I (22, 8, 0) m a) (23, 8, 0) m b) (24, 8, 0) m c
theorem setMove_ok {m : Nat} {a b c : Int32} (hR : RF R) (hm : m < 2) : evm (d + 2) 77 [aR (7, 8, 0), aI (N m), aI a, aI b, aI c] (I, M, R, G) = some (.inl none, (smI I m a b c, M, R, G)) := by
  simp only [m77, s77_0, s77_1, s77_4, s77_5, s77_6, s77_9, s77_10, s77_13, s77_14, s77_15, s77_18, s77_19, s77_22, s77_23, s77_25, s77_28, (hR.2.2.1 8 (by decide)).1, (hR.2.2.1 8 (by decide)).2.1, (hR.2.2.1 8 (by decide)).2.2, put_N (S := (I, M, R, G)) (o := (22, 8, 0)) k22 rfl hm (by decide), put_N (S := (setI I (22, 8, 0) m a, M, R, G)) (o := (23, 8, 0)) k23 rfl hm (by decide), put_N (S := (setI (setI I (22, 8, 0) m a) (23, 8, 0) m b, M, R, G)) (o := (24, 8, 0)) k24 rfl hm (by decide), if_false, if_true, ck_v, ck_x, Option.toList, List.cons_append, List.nil_append, kil_nil, N_1, o10, o00, exN_0, exN_1, exN_2, exN_3, exN_4, exN_5, Ex, smI]
end CMOVES
