/-! THE METHODS' MEANING: the class enqueues moves -/
def sck (q : Qy) (V : Vw) (k : Nat) (c r : Nat) : List Vw := (List.range' c r).flatMap (fun c => if canM V q k c = true then [chV V k c] else [])
theorem sck_s {q : Qy} {V : Vw} {k c r : Nat} : sck q V k c (r + 1) = (if canM V q k c = true then [chV V k c] else []) ++ sck q V k (c + 1) r := by
  unfold sck
  rw [List.range'_succ, List.flatMap_cons]
theorem suc_sck {q : Qy} {V : Vw} : suc q V = (Ls V (qs q)).flatMap (fun k => sck q V k 0 8) := by
  unfold suc sck
  rw [List.range_eq_range']
theorem sck_len {q : Qy} {V : Vw} {k : Nat} (h : ∃ c, c < 8 ∧ vf V k 3 = N c) : (sck q V k 0 8).length ≤ 7 := by
  obtain ⟨c, hc, e⟩ := h
  obtain ⟨f, hf⟩ : ∃ f : Nat → List Vw, f = fun c => if canM V q k c = true then [chV V k c] else [] := ⟨_, rfl⟩
  have hl : sck q V k 0 8 = f 0 ++ (f 1 ++ (f 2 ++ (f 3 ++ (f 4 ++ (f 5 ++ (f 6 ++ (f 7 ++ []))))))) := by
    rw [hf]
    simp only [sck_s]
    rfl
  have h1 : ∀ x, (f x).length ≤ 1 := fun x => by
    rw [hf]
    show (if canM V q k x = true then [chV V k x] else []).length ≤ 1
    split
    · exact Nat.le_refl 1
    · exact Nat.zero_le 1
  have h0 : (f c).length = 0 := by
    rw [hf]
    show (if canM V q k c = true then [chV V k c] else []).length = 0
    have : canM V q k c = false := by unfold canM; simp [e]
    rw [this]
    rfl
  rw [hl]
  simp only [List.length_append, List.length_nil]
  have a0 := h1 0
  have a1 := h1 1
  have a2 := h1 2
  have a3 := h1 3
  have a4 := h1 4
  have a5 := h1 5
  have a6 := h1 6
  have a7 := h1 7
  match c, hc, h0 with
  | 0, _, h0 => omega
  | 1, _, h0 => omega
  | 2, _, h0 => omega
  | 3, _, h0 => omega
  | 4, _, h0 => omega
  | 5, _, h0 => omega
  | 6, _, h0 => omega
  | 7, _, h0 => omega
  | n + 8, hc, _ => omega
theorem fm_len {α β : Type} {f : α → List β} {b : Nat} : ∀ (l : List α), (∀ a, a ∈ l → (f a).length ≤ b) → (l.flatMap f).length ≤ l.length * b
  | [], _ => by simp
  | a :: l, h => by
    rw [List.flatMap_cons, List.length_append, List.length_cons, Nat.succ_mul]
    have h1 := h a List.mem_cons_self
    have h2 := fm_len l (fun a ha => h a (List.mem_cons_of_mem _ ha))
    omega
theorem suc_len {q : Qy} {V : Vw} (hW : WV V) : (suc q V).length ≤ 49 := by
  rw [suc_sck]
  have h1 := fm_len (f := fun k => sck q V k 0 8) (b := 7) (Ls V (qs q)) (fun k hk => sck_len (hW.ch (ls_m k hk)))
  have h2 := ls_7 (V := V) (e := qs q) hW.2.1
  have h3 : (Ls V (qs q)).length * 7 ≤ 7 * 7 := Nat.mul_le_mul_right 7 h2
  omega
section ENQ
variable {d : Nat} {I I' I'' : OId → Nat → Int32} {M R : OId → Nat → AV} {G : SG} {V : Vw} {L : List Nat} {q : Qy}
theorem cb_w (hW : WV V) {e : Option Nat} : CB V (Ls V e) := fun k hk => hW.ch (ls_m k hk)
/-- the bits of what is open to the i-th of the net, k -/
def opb (q : Qy) (V : Vw) (i k : Nat) : Nat := if some k = qt q then 0 else opn V (Ls V (qs q)) i k &&& (255 - 2 ^ chn V k)
theorem opb_lt {i k : Nat} : opb q V i k < 256 := by
  unfold opb
  split
  · decide
  · exact Nat.lt_of_le_of_lt Nat.and_le_left (by unfold opn; omega)
theorem opb_bit {i k c : Nat} (hW : WV V) (hi : (Ls V (qs q))[i]? = some k) (hc : c < 8) : (opb q V i k).testBit c = canM V q k c := by
  unfold opb
  by_cases ht : some k = qt q
  · rw [if_pos ht]
    have : canM V q k c = false := by unfold canM; simp [ht]
    rw [this]
    exact Nat.zero_testBit c
  · rw [if_neg ht]
    exact can_bit hW hi ht hc
/-- what the queue's filling changes -/
def FQ (I I' : OId → Nat → Int32) : Prop := ∀ o, o ≠ (28, 0, 0) → o ≠ (32, 0, 0) → I' o = I o
theorem FQ.rf : FQ I I := fun _ _ _ => rfl
theorem FQ.tr (h : FQ I I') (h' : FQ I' I'') : FQ I I'' := fun o a b => (h' o a b).trans (h o a b)
theorem FQ.fs (h : FQ I I') : FS I I' := fun o ho => h o (by rintro rfl; exact ho (sr2 ⟨by decide, by decide⟩)) (by rintro rfl; exact ho (sr2 ⟨by decide, by decide⟩))
theorem NT.fq (h : NT I V L) (f : FQ I I') (e : I' (28, 0, 0) = I (28, 0, 0)) : NT I' V L := h.fr (f _ (by simp) (by simp)) (f _ (by simp) (by simp)) (f _ (by simp) (by simp)) e (f _ (by simp) (by simp))
theorem SV.fq (h : SV I V q L) (f : FQ I I') : SV I' V q L := h.fr (f _ (by simp) (by simp)) (f _ (by simp) (by simp)) (f _ (by simp) (by simp))
theorem nt_chq {i k c : Nat} (h : NT I V L) (f : FQ I I') (hi : L[i]? = some k) (hLi : ∀ (i j k : Nat), L[i]? = some k → L[j]? = some k → i = j) (e : ∀ x, I' (28, 0, 0) x = if x = i then N c else I (28, 0, 0) x) : NT I' (chV V k c) L := by
  refine ⟨by rw [f (6, 0, 0) (by simp) (by simp)]; exact h.1, fun x kx hx => ?_⟩
  obtain ⟨b1, b2, b3, b4⟩ := h.2 x kx hx
  have e0 : vf (chV V k c) kx 0 = vf V kx 0 := if_neg (by omega)
  rw [f (26, 0, 0) (by simp) (by simp), f (27, 0, 0) (by simp) (by simp), f (29, 0, 0) (by simp) (by simp), e0, e]
  refine ⟨b1, b2, ?_, fun j m hj hji => by rw [spv_ch]; exact b4 j m hj hji⟩
  by_cases hxi : x = i
  · subst hxi
    rw [hx] at hi
    cases hi
    rw [if_pos rfl]
    exact (if_pos ⟨rfl, rfl⟩).symm
  · rw [if_neg hxi, b3]
    have hne : ¬ (kx = k ∧ 3 = 3) := fun w => hxi (hLi x i k (w.1 ▸ hx) hi)
    exact (if_neg hne).symm
theorem enqueue_ok {e0 : Nat} (hR : RF R) (hW : WV V) (hQ : QB V q) (hN : NT I V (Ls V (qs q))) (hS : SV I V q (Ls V (qs q))) (he : e0 + (suc q V).length ≤ 2451) : ∃ I', evm (d + 4) 146 [aR (8, 0, 0), aI (N e0)] (I, M, R, G) = some (.inl (some (aI (N (e0 + (suc q V).length)))), (I', M, R, G)) ∧ FQ I I' ∧ I' (28, 0, 0) = I (28, 0, 0) ∧ (∀ x, x < e0 → I' (32, 0, 0) x = I (32, 0, 0) x) ∧ ∀ j V', (suc q V)[j]? = some V' → I' (32, 0, 0) (e0 + j) = N (pk V' (Ls V (qs q))) := by
  have h7 := hW.2.1
  have hl7 := ls_7 (V := V) (e := qs q) h7
  have hC : ∀ (i k : Nat), (Ls V (qs q))[i]? = some k → ∀ (r c e : Nat) (J : OId → Nat → Int32), c + r = 8 → e + (sck q V k c r).length ≤ 2451 → FQ I J → (∀ x, x ≠ i → J (28, 0, 0) x = I (28, 0, 0) x) → ∃ J', ev (evm (d + 3)) 146 60 [some (aR (8, 0, 0)), some (aI (N e0)), some (aI (N e)), some (aI (N i)), some (aI (vf V k 3)), some (aI (N (opb q V i k))), some (aI (N c))] [] [] (J, M, R, G) = ev (evm (d + 3)) 146 4 [some (aR (8, 0, 0)), some (aI (N e0)), some (aI (N (e + (sck q V k c r).length))), some (aI (N (i + 1))), some (aI (vf V k 3)), some (aI (N (opb q V i k))), some (aI (N 8))] [] [] (J', M, R, G) ∧ FQ I J' ∧ J' (28, 0, 0) = I (28, 0, 0) ∧ (∀ x, x < e → J' (32, 0, 0) x = J (32, 0, 0) x) ∧ ∀ j V', (sck q V k c r)[j]? = some V' → J' (32, 0, 0) (e + j) = N (pk V' (Ls V (qs q))) := by
    intro i k hi r
    have hil := (ls_get hi).1
    have hkn := ls_m k (ls_get hi).2
    induction r with
    | zero =>
      intro c e J hc he hF h28
      have e8 : c = 8 := by omega
      subst e8
      refine ⟨setI J (28, 0, 0) i (vf V k 3), ?_, fun o a b => by rw [setI_ne a]; exact hF o a b, ?_, fun x _ => by rw [setI_ne (by simp)], fun j V' hj => by simp [sck] at hj⟩
      · have e8 : ((8 : Int32) ≤ N 8) = True := N_ge1 (a := 8) (b := 8) (Nat.le_refl _) (by decide)
        rw [s146_60]
        simp only [m146, s146_0, s146_1, s146_2, s146_3, s146_5, s146_6, s146_9, s146_12, s146_15, s146_16, s146_19, s146_22, s146_23, s146_26, s146_28, s146_29, s146_30, s146_33, s146_36, s146_37, s146_40, s146_41, s146_44, s146_45, s146_48, s146_49, s146_51, s146_52, s146_53, s146_54, s146_55, s146_57, s146_58, s146_62, s146_64, s146_67, s146_69, s146_70, s146_72, s146_75, s146_78, s146_79, s146_82, s146_85, s146_86, s146_88, s146_91, s146_92, s146_95, s146_96, s146_97, s146_100, s146_103, s146_106, s146_109, s146_112, s146_113, s146_116, s146_119, s146_120, s146_122, s146_125, s146_128, s146_131, s146_132, e8, hR.s.1, hR.n.2.2.1, put_N (S := (J, M, R, G)) (o := (28, 0, 0)) k28 rfl (show i < 7 by omega) (by decide), if_false, if_true, ck_v, ck_x, Option.toList, List.cons_append, List.nil_append, kil_nil, N_1, o10, o00, exN_0, exN_1, exN_2, exN_3, exN_4, exN_5, Ex]
        rfl
      · funext x
        rw [setI_at]
        by_cases hx : x = i
        · rw [if_pos hx, hx]
          exact (hN.2 i k hi).2.2.1.symm
        · rw [if_neg hx, h28 x hx]
    | succ r ih =>
      intro c e J hc he hF h28
      have hc8 : c < 8 := by omega
      have e8 : ((8 : Int32) ≤ N c) = False := N_ge (a := c) (b := 8) (by omega) (by decide)
      have hb := opb_bit (q := q) hW hi hc8
      have hop := opb_lt (q := q) (V := V) (i := i) (k := k)
      have eh := fun (S : SS) => has_ok (d := d + 2) (S := S) (m := opb q V i k) (c := c) (by omega) (by omega)
      rw [sck_s] at he
      by_cases hm1 : canM V q k c = true
      · rw [if_pos hm1] at he
        rw [hm1] at hb
        have he' : e + 1 + (sck q V k (c + 1) r).length ≤ 2451 := by
          simp only [List.length_append, List.length_singleton] at he
          omega
        obtain ⟨J1, hJ1⟩ : ∃ J1, J1 = setI J (28, 0, 0) i (N c) := ⟨_, rfl⟩
        have hF1 : FQ I J1 := fun o a b => by rw [hJ1, setI_ne a]; exact hF o a b
        have h1 : ∀ x, J1 (28, 0, 0) x = if x = i then N c else I (28, 0, 0) x := fun x => by
          rw [hJ1, setI_at]
          by_cases hx : x = i
          · rw [if_pos hx, if_pos hx]
          · rw [if_neg hx, if_neg hx, h28 x hx]
        have hNc : NT J1 (chV V k c) (Ls V (qs q)) := nt_chq hN hF1 hi (fun i j k => lsl_inj) h1
        have hCc : CB (chV V k c) (Ls V (qs q)) := fun j hj => (wv_ch (k := k) hW hc8).ch (show j < vn V from ls_m (V := V) j hj)
        have hpk := pack_ok (d := d + 1) (M := M) (G := G) hR hNc hCc hl7
        obtain ⟨J2, hJ2⟩ : ∃ J2, J2 = setI J1 (32, 0, 0) e (N (pk (chV V k c) (Ls V (qs q)))) := ⟨_, rfl⟩
        obtain ⟨J', e1, a1, a2, a3, a4⟩ := ih (c + 1) (e + 1) J2 (by omega) he' (fun o a b => by rw [hJ2, setI_ne b]; exact hF1 o a b) (fun x hx => by rw [hJ2, setI_ne (by simp), h1, if_neg hx])
        have hlen : e + (sck q V k c (r + 1)).length = e + 1 + (sck q V k (c + 1) r).length := by
          rw [sck_s, if_pos hm1]
          simp only [List.length_append, List.length_singleton]
          omega
        refine ⟨J', ?_, a1, a2, fun x hx => ?_, fun j V' hj => ?_⟩
        · rw [hlen, s146_60]
          simp only [m146, s146_0, s146_1, s146_2, s146_3, s146_5, s146_6, s146_9, s146_12, s146_15, s146_16, s146_19, s146_22, s146_23, s146_26, s146_28, s146_29, s146_30, s146_33, s146_36, s146_37, s146_40, s146_41, s146_44, s146_45, s146_48, s146_49, s146_51, s146_52, s146_53, s146_54, s146_55, s146_57, s146_58, s146_62, s146_64, s146_67, s146_69, s146_70, s146_72, s146_75, s146_78, s146_79, s146_82, s146_85, s146_86, s146_88, s146_91, s146_92, s146_95, s146_96, s146_97, s146_100, s146_103, s146_106, s146_109, s146_112, s146_113, s146_116, s146_119, s146_120, s146_122, s146_125, s146_128, s146_131, s146_132, e8, N2L _ hop, eh, hb, hR.s.1, hR.s.2.2.2.2, hR.n.2.2.1, put_N (S := (J, M, R, G)) (o := (28, 0, 0)) k28 rfl (show i < 7 by omega) (by decide), if_false, if_true, ck_v, ck_x, Option.toList, List.cons_append, List.nil_append, kil_nil, N_1, o10, o00, exN_0, exN_1, exN_2, exN_3, exN_4, exN_5, Ex]
          rw [← hJ1]
          simp only [hpk, m146, s146_0, s146_1, s146_2, s146_3, s146_5, s146_6, s146_9, s146_12, s146_15, s146_16, s146_19, s146_22, s146_23, s146_26, s146_28, s146_29, s146_30, s146_33, s146_36, s146_37, s146_40, s146_41, s146_44, s146_45, s146_48, s146_49, s146_51, s146_52, s146_53, s146_54, s146_55, s146_57, s146_58, s146_62, s146_64, s146_67, s146_69, s146_70, s146_72, s146_75, s146_78, s146_79, s146_82, s146_85, s146_86, s146_88, s146_91, s146_92, s146_95, s146_96, s146_97, s146_100, s146_103, s146_106, s146_109, s146_112, s146_113, s146_116, s146_119, s146_120, s146_122, s146_125, s146_128, s146_131, s146_132, put_N (S := (J1, M, R, G)) (o := (32, 0, 0)) k32 rfl (show e < 2451 by omega) (by decide), if_false, if_true, ck_v, ck_x, Option.toList, List.cons_append, List.nil_append, kil_nil, N_1, o10, o00, exN_0, exN_1, exN_2, exN_3, exN_4, exN_5, Ex]
          rw [← hJ2]
          exact e1
        · rw [a3 x (by omega), hJ2, setI_at, if_neg (by omega), hJ1, setI_ne (by simp)]
        · rw [sck_s, if_pos hm1] at hj
          cases j with
          | zero =>
            have : V' = chV V k c := by
              simp only [List.singleton_append, List.getElem?_cons_zero, Option.some.injEq] at hj
              exact hj.symm
            rw [this, Nat.add_zero, a3 e (by omega), hJ2, setI_at, if_pos rfl]
          | succ j =>
            simp only [List.singleton_append, List.getElem?_cons_succ] at hj
            rw [show e + (j + 1) = e + 1 + j by omega]
            exact a4 j V' hj
      · rw [if_neg hm1, List.nil_append] at he
        have hlen : e + (sck q V k c (r + 1)).length = e + (sck q V k (c + 1) r).length := by
          rw [sck_s, if_neg hm1, List.nil_append]
        have hlist : sck q V k c (r + 1) = sck q V k (c + 1) r := by rw [sck_s, if_neg hm1, List.nil_append]
        obtain ⟨J', e1, a1, a2, a3, a4⟩ := ih (c + 1) e J (by omega) he hF h28
        rw [Bool.not_eq_true] at hm1
        rw [hm1] at hb
        refine ⟨J', ?_, a1, a2, a3, fun j V' hj => a4 j V' (hlist ▸ hj)⟩
        rw [hlen, s146_60]
        simp only [m146, s146_0, s146_1, s146_2, s146_3, s146_5, s146_6, s146_9, s146_12, s146_15, s146_16, s146_19, s146_22, s146_23, s146_26, s146_28, s146_29, s146_30, s146_33, s146_36, s146_37, s146_40, s146_41, s146_44, s146_45, s146_48, s146_49, s146_51, s146_52, s146_53, s146_54, s146_55, s146_57, s146_58, s146_62, s146_64, s146_67, s146_69, s146_70, s146_72, s146_75, s146_78, s146_79, s146_82, s146_85, s146_86, s146_88, s146_91, s146_92, s146_95, s146_96, s146_97, s146_100, s146_103, s146_106, s146_109, s146_112, s146_113, s146_116, s146_119, s146_120, s146_122, s146_125, s146_128, s146_131, s146_132, e8, N2L _ hop, eh, hb, Bool.false_eq_true, if_false, if_true, ck_v, ck_x, Option.toList, List.cons_append, List.nil_append, kil_nil, N_1, o10, o00, exN_0, exN_1, exN_2, exN_3, exN_4, exN_5, Ex]
        exact e1
  have hK : ∀ (r i e : Nat) (J : OId → Nat → Int32) (l4 l5 l6 : Option AV), i + r = (Ls V (qs q)).length → e + (((Ls V (qs q)).drop i).flatMap (fun k => sck q V k 0 8)).length ≤ 2451 → FQ I J → J (28, 0, 0) = I (28, 0, 0) → ∃ J', ev (evm (d + 3)) 146 4 [some (aR (8, 0, 0)), some (aI (N e0)), some (aI (N e)), some (aI (N i)), l4, l5, l6] [] [] (J, M, R, G) = some (.inl (some (aI (N (e + (((Ls V (qs q)).drop i).flatMap (fun k => sck q V k 0 8)).length)))), (J', M, R, G)) ∧ FQ I J' ∧ J' (28, 0, 0) = I (28, 0, 0) ∧ (∀ x, x < e → J' (32, 0, 0) x = J (32, 0, 0) x) ∧ ∀ j V', (((Ls V (qs q)).drop i).flatMap (fun k => sck q V k 0 8))[j]? = some V' → J' (32, 0, 0) (e + j) = N (pk V' (Ls V (qs q))) := by
    intro r
    induction r with
    | zero =>
      intro i e J l4 l5 l6 hi he hF h28
      have h6 : J (6, 0, 0) 0 = N (Ls V (qs q)).length := (hN.fq hF h28).1
      have hdr : (Ls V (qs q)).drop i = [] := List.drop_eq_nil_of_le (by omega)
      rw [hdr]
      refine ⟨J, ?_, hF, h28, fun _ _ => rfl, fun j V' hj => by simp at hj⟩
      have hge : (N (Ls V (qs q)).length ≤ N i) = True := N_ge1 (by omega) (by omega)
      rw [s146_4]
      simp only [m146, s146_0, s146_1, s146_2, s146_3, s146_5, s146_6, s146_9, s146_12, s146_15, s146_16, s146_19, s146_22, s146_23, s146_26, s146_28, s146_29, s146_30, s146_33, s146_36, s146_37, s146_40, s146_41, s146_44, s146_45, s146_48, s146_49, s146_51, s146_52, s146_53, s146_54, s146_55, s146_57, s146_58, s146_62, s146_64, s146_67, s146_69, s146_70, s146_72, s146_75, s146_78, s146_79, s146_82, s146_85, s146_86, s146_88, s146_91, s146_92, s146_95, s146_96, s146_97, s146_100, s146_103, s146_106, s146_109, s146_112, s146_113, s146_116, s146_119, s146_120, s146_122, s146_125, s146_128, s146_131, s146_132, hR.s.1, h6, hge, if_false, if_true, ck_v, ck_x, Option.toList, List.cons_append, List.nil_append, kil_nil, N_1, o10, o00, exN_0, exN_1, exN_2, exN_3, exN_4, exN_5, Ex]
      rfl
    | succ r ih =>
      intro i e J l4 l5 l6 hi he hF h28
      have hil : i < (Ls V (qs q)).length := by omega
      obtain ⟨k, hk⟩ : ∃ k, (Ls V (qs q))[i]? = some k := ⟨(Ls V (qs q))[i], List.getElem?_eq_getElem hil⟩
      have hkn := ls_m k (ls_get hk).2
      have hgk : (Ls V (qs q))[i] = k := by
        have := List.getElem?_eq_getElem hil
        rw [hk] at this
        cases this
        rfl
      have hdr : ((Ls V (qs q)).drop i).flatMap (fun k => sck q V k 0 8) = sck q V k 0 8 ++ ((Ls V (qs q)).drop (i + 1)).flatMap (fun k => sck q V k 0 8) := by
        rw [List.drop_eq_getElem_cons hil, hgk, List.flatMap_cons]
      rw [hdr] at he ⊢
      rw [List.length_append] at he ⊢
      have hNJ := hN.fq hF h28
      have h6 : J (6, 0, 0) 0 = N (Ls V (qs q)).length := hNJ.1
      have hheld := (hS.fq hF).2.1 i k hk
      obtain ⟨f, hf, ef⟩ := hW.ch hkn
      have ecf : chn V k = f := by unfold chn; rw [ef, N_cl (by omega)]
      have e28 : J (28, 0, 0) i = vf V k 3 := by rw [h28]; exact (hN.2 i k hk).2.2.1
      have hop8 : opn V (Ls V (qs q)) i k < 256 := by unfold opn; omega
      have hopen := openTo_ok (d := d) (M := M) (G := G) hR hW hNJ hl7 ls_m hk
      have hclr : (N (opn V (Ls V (qs q)) i k) &&& ((1 : Int32) <<< (vf V k 3 &&& 31) ^^^ (-1))) = N (opn V (Ls V (qs q)) i k &&& (255 - 2 ^ chn V k)) := by
        rw [ecf, ef]
        exact clr_tab _ hop8 f hf
      have hge : (N (Ls V (qs q)).length ≤ N i) = False := N_ge hil (by omega)
      have hrun : ev (evm (d + 3)) 146 4 [some (aR (8, 0, 0)), some (aI (N e0)), some (aI (N e)), some (aI (N i)), l4, l5, l6] [] [] (J, M, R, G) = ev (evm (d + 3)) 146 60 [some (aR (8, 0, 0)), some (aI (N e0)), some (aI (N e)), some (aI (N i)), some (aI (vf V k 3)), some (aI (N (opb q V i k))), some (aI (N 0))] [] [] (J, M, R, G) := by
        rw [s146_4]
        by_cases ht : some k = qt q
        · have eh : (N i = J (8, 0, 0) 6) = True := by rw [hheld]; exact eq_true ht
          have eo : opb q V i k = 0 := if_pos ht
          rw [eo]
          simp only [m146, s146_0, s146_1, s146_2, s146_3, s146_5, s146_6, s146_9, s146_12, s146_15, s146_16, s146_19, s146_22, s146_23, s146_26, s146_28, s146_29, s146_30, s146_33, s146_36, s146_37, s146_40, s146_41, s146_44, s146_45, s146_48, s146_49, s146_51, s146_52, s146_53, s146_54, s146_55, s146_57, s146_58, s146_62, s146_64, s146_67, s146_69, s146_70, s146_72, s146_75, s146_78, s146_79, s146_82, s146_85, s146_86, s146_88, s146_91, s146_92, s146_95, s146_96, s146_97, s146_100, s146_103, s146_106, s146_109, s146_112, s146_113, s146_116, s146_119, s146_120, s146_122, s146_125, s146_128, s146_131, s146_132, hR.s.1, hR.n.2.2.1, h6, hge, get_N (S := (J, M, R, G)) k28 (fun _ => rfl) (show i < 7 by omega) (by decide), e28, eh, if_false, if_true, ck_v, ck_x, Option.toList, List.cons_append, List.nil_append, kil_nil, N_1, o10, o00, exN_0, exN_1, exN_2, exN_3, exN_4, exN_5, Ex]
          rfl
        · have eh : (N i = J (8, 0, 0) 6) = False := by rw [hheld]; exact eq_false ht
          have eo : opb q V i k = opn V (Ls V (qs q)) i k &&& (255 - 2 ^ chn V k) := if_neg ht
          rw [eo]
          simp only [m146, s146_0, s146_1, s146_2, s146_3, s146_5, s146_6, s146_9, s146_12, s146_15, s146_16, s146_19, s146_22, s146_23, s146_26, s146_28, s146_29, s146_30, s146_33, s146_36, s146_37, s146_40, s146_41, s146_44, s146_45, s146_48, s146_49, s146_51, s146_52, s146_53, s146_54, s146_55, s146_57, s146_58, s146_62, s146_64, s146_67, s146_69, s146_70, s146_72, s146_75, s146_78, s146_79, s146_82, s146_85, s146_86, s146_88, s146_91, s146_92, s146_95, s146_96, s146_97, s146_100, s146_103, s146_106, s146_109, s146_112, s146_113, s146_116, s146_119, s146_120, s146_122, s146_125, s146_128, s146_131, s146_132, hR.s.1, hR.n.2.2.1, h6, hge, get_N (S := (J, M, R, G)) k28 (fun _ => rfl) (show i < 7 by omega) (by decide), e28, eh, hopen, hclr, if_false, if_true, ck_v, ck_x, Option.toList, List.cons_append, List.nil_append, kil_nil, N_1, o10, o00, exN_0, exN_1, exN_2, exN_3, exN_4, exN_5, Ex]
          rfl
      obtain ⟨J1, e1, a1, a2, a3, a4⟩ := hC i k hk 8 0 e J (by omega) (by omega) hF (fun x _ => by rw [h28])
      obtain ⟨J2, e2, b1, b2, b3, b4⟩ := ih (i + 1) (e + (sck q V k 0 8).length) J1 (some (aI (vf V k 3))) (some (aI (N (opb q V i k)))) (some (aI (N 8))) (by omega) (by omega) a1 a2
      refine ⟨J2, ?_, b1, b2, fun x hx => (b3 x (by omega)).trans (a3 x hx), fun j V' hj => ?_⟩
      · rw [hrun, e1, e2, Nat.add_assoc]
      · by_cases hjl : j < (sck q V k 0 8).length
        · rw [List.getElem?_append_left hjl] at hj
          rw [b3 _ (by omega)]
          exact a4 j V' hj
        · rw [List.getElem?_append_right (by omega)] at hj
          have := b4 _ V' hj
          rw [show e + (sck q V k 0 8).length + (j - (sck q V k 0 8).length) = e + j by omega] at this
          exact this
  rw [suc_sck] at he ⊢
  obtain ⟨J', e1, a1, a2, a3, a4⟩ := hK (Ls V (qs q)).length 0 e0 I none none none (by omega) he FQ.rf rfl
  refine ⟨J', ?_, a1, a2, a3, a4⟩
  rw [m146]
  simp only [s146_0, s146_1, s146_2, s146_3, kil_nil]
  exact e1
end ENQ
