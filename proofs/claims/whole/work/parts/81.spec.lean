/-! THE METHODS' MEANING: the class looks for a plan -/
def FT (m : Nat) (I I' : OId → Nat → Int32) : Prop := (∀ o, o ≠ (28, 0, 0) → o ≠ (7, 8, 0) → o ≠ (22, 8, 0) → o ≠ (23, 8, 0) → o ≠ (24, 8, 0) → I' o = I o) ∧ (∀ f, f ≠ 1 → I' (7, 8, 0) f = I (7, 8, 0) f) ∧ ∀ i, i < m → I' (22, 8, 0) i = I (22, 8, 0) i ∧ I' (23, 8, 0) i = I (23, 8, 0) i ∧ I' (24, 8, 0) i = I (24, 8, 0) i
def GT (m : Nat) (V : Vw) (r : Pln) (I' : OId → Nat → Int32) : Prop := I' (7, 8, 0) 1 = N r.2 ∧ ∀ i k e, r.1[i]? = some (k, e) → I' (22, 8, 0) (m + i) = vf V k 0 ∧ I' (23, 8, 0) (m + i) = vf (mvV V (r.1.take i)) k 3 ∧ I' (24, 8, 0) (m + i) = N e
section TRY
variable {d : Nat} {I I' I'' : OId → Nat → Int32} {M R : OId → Nat → AV} {G : SG} {V : Vw} {L : List Nat} {q : Qy}
theorem FT.rf {m : Nat} : FT m I I := ⟨fun _ _ _ _ _ _ => rfl, fun _ _ => rfl, fun _ _ => ⟨rfl, rfl, rfl⟩⟩
theorem FT.tr {m : Nat} (h : FT m I I') (h' : FT m I' I'') : FT m I I'' := ⟨fun o a b c e f => (h'.1 o a b c e f).trans (h.1 o a b c e f), fun f hf => (h'.2.1 f hf).trans (h.2.1 f hf), fun i hi => ⟨(h'.2.2 i hi).1.trans (h.2.2 i hi).1, (h'.2.2 i hi).2.1.trans (h.2.2 i hi).2.1, (h'.2.2 i hi).2.2.trans (h.2.2 i hi).2.2⟩⟩
theorem FT.le {m n : Nat} (h : FT n I I') (hm : m ≤ n) : FT m I I' := ⟨h.1, h.2.1, fun i hi => h.2.2 i (by omega)⟩
theorem FT.c28 {m f : Nat} {x : Int32} : FT m I (setI I (28, 0, 0) f x) := ⟨fun o a _ _ _ _ => setI_ne a, fun f _ => by rw [setI_ne (by simp)], fun i _ => ⟨by rw [setI_ne (by simp)], by rw [setI_ne (by simp)], by rw [setI_ne (by simp)]⟩⟩
theorem FT.fs {m : Nat} (h : FT m I I') : FS I I' := fun o ho => h.1 o (by rintro rfl; exact ho (sr2 ⟨by decide, by decide⟩)) (by rintro rfl; exact ho (Or.inr (Or.inr (Or.inr ⟨rfl, by simp⟩)))) (by rintro rfl; exact ho (Or.inr (Or.inr (Or.inr ⟨rfl, by simp⟩)))) (by rintro rfl; exact ho (Or.inr (Or.inr (Or.inr ⟨rfl, by simp⟩)))) (by rintro rfl; exact ho (Or.inr (Or.inr (Or.inr ⟨rfl, by simp⟩))))
theorem NT.ft {m : Nat} (h : NT I V L) (f : FT m I I') (e : I' (28, 0, 0) = I (28, 0, 0)) : NT I' V L := h.fr (f.1 _ (by simp) (by simp) (by simp) (by simp) (by simp)) (f.1 _ (by simp) (by simp) (by simp) (by simp) (by simp)) (f.1 _ (by simp) (by simp) (by simp) (by simp) (by simp)) e (f.1 _ (by simp) (by simp) (by simp) (by simp) (by simp))
theorem SV.ft {m : Nat} (h : SV I V q L) (f : FT m I I') : SV I' V q L := h.fr (f.1 _ (by simp) (by simp) (by simp) (by simp) (by simp)) (f.1 _ (by simp) (by simp) (by simp) (by simp) (by simp)) (f.1 _ (by simp) (by simp) (by simp) (by simp) (by simp))
theorem nt_ch {m i k c : Nat} (h : NT I V L) (f : FT m I I') (hi : L[i]? = some k) (hLi : ∀ (i j k : Nat), L[i]? = some k → L[j]? = some k → i = j) (e : ∀ x, I' (28, 0, 0) x = if x = i then N c else I (28, 0, 0) x) : NT I' (chV V k c) L := by
  have fo : ∀ o, o ≠ (28, 0, 0) → o ≠ (7, 8, 0) → o ≠ (22, 8, 0) → o ≠ (23, 8, 0) → o ≠ (24, 8, 0) → I' o = I o := f.1
  refine ⟨by rw [fo (6, 0, 0) (by simp) (by simp) (by simp) (by simp) (by simp)]; exact h.1, fun x kx hx => ?_⟩
  obtain ⟨b1, b2, b3, b4⟩ := h.2 x kx hx
  have e0 : vf (chV V k c) kx 0 = vf V kx 0 := if_neg (by omega)
  rw [fo (26, 0, 0) (by simp) (by simp) (by simp) (by simp) (by simp), fo (27, 0, 0) (by simp) (by simp) (by simp) (by simp) (by simp), fo (29, 0, 0) (by simp) (by simp) (by simp) (by simp) (by simp), e0, e]
  refine ⟨b1, b2, ?_, fun j m hj hji => by rw [spv_ch]; exact b4 j m hj hji⟩
  by_cases hxi : x = i
  · subst hxi
    rw [hx] at hi
    cases hi
    rw [if_pos rfl]
    exact (if_pos ⟨rfl, rfl⟩).symm
  · rw [if_neg hxi, b3]
    have hne : ¬ (kx = k ∧ 3 = 3) := fun w => hxi (hLi x i k (w.1 ▸ hx) hi)
    exact (if_neg hne).symm
theorem sv_ch {k c : Nat} (h : SV I V q L) : SV I (chV V k c) q L := ⟨h.1, h.2.1, fun i m hm => by
  rw [sepS_ch, sqv_ch]
  exact h.2.2 i m hm⟩
theorem smI_o {m : Nat} {a b c : Int32} {o : OId} (h1 : o ≠ (22, 8, 0)) (h2 : o ≠ (23, 8, 0)) (h3 : o ≠ (24, 8, 0)) : smI I m a b c o = I o := by
  unfold smI
  rw [setI_ne h3, setI_ne h2, setI_ne h1]
theorem smI_ft {m : Nat} {a b c : Int32} : FT m I (smI I m a b c) := ⟨fun o _ _ h1 h2 h3 => smI_o h1 h2 h3, fun f _ => by rw [smI_o (by simp) (by simp) (by simp)], fun i hi => by
  unfold smI
  refine ⟨?_, ?_, ?_⟩
  · rw [setI_ne (by simp), setI_ne (by simp), setI_at, if_neg (by omega)]
  · rw [setI_ne (by simp), setI_at, if_neg (by omega), setI_ne (by simp)]
  · rw [setI_at, if_neg (by omega), setI_ne (by simp), setI_ne (by simp)]⟩
theorem try_ok (hR : RF R) : ∀ (l m : Nat) (V : Vw) (I : OId → Nat → Int32), WV V → QB V q → NT I V (Ls V (qs q)) → SV I V q (Ls V (qs q)) → I (7, 8, 0) 0 = N (m + l) → m + l ≤ 2 → match dfs q l V with
    | none => ∃ I', evm (d + 2 * l + 4) 69 [aR (8, 0, 0), aI (N m)] (I, M, R, G) = some (.inl (some (aI 0)), (I', M, R, G)) ∧ I' (28, 0, 0) = I (28, 0, 0) ∧ FT m I I'
    | some r => ∃ I', evm (d + 2 * l + 4) 69 [aR (8, 0, 0), aI (N m)] (I, M, R, G) = some (.inl (some (aI 1)), (I', M, R, G)) ∧ I' (28, 0, 0) = I (28, 0, 0) ∧ FT m I I' ∧ GT m V r I'
  | 0, m, V, I, hW, hQ, hN, hS, hp, hm => by
    have h7 := hW.2.1
    have hc := chooseChannel_ok (d := d) (M := M) (G := G) hR hN hS (sb_of hW hQ) hQ h7
    have hlt : (N m < N (m + 0)) = False := by
      rw [N_lt (by omega) (by omega)]
      simp
    have hF : ∀ x, FT m I (setI I (7, 8, 0) 1 x) := fun x => ⟨fun o _ a _ _ _ => setI_ne a, fun f hf => by rw [setI_at, if_neg hf], fun i _ => ⟨by rw [setI_ne (by simp)], by rw [setI_ne (by simp)], by rw [setI_ne (by simp)]⟩⟩
    have hrun : evm (d + 2 * 0 + 4) 69 [aR (8, 0, 0), aI (N m)] (I, M, R, G) = some (.inl (some (aI (if bestC V q = none then 0 else 1))), (setI I (7, 8, 0) 1 (och (bestC V q)), M, R, G)) := by
      show evm (d + 3 + 1) 69 [aR (8, 0, 0), aI (N m)] (I, M, R, G) = _
      rw [m69]
      cases hb : bestC V q with
      | none =>
        rw [hb] at hc
        simp only [s69_0, s69_1, s69_2, s69_5, s69_8, s69_11, s69_12, s69_15, s69_16, s69_17, hR.s.2.1, hp, hlt, hc, if_false, if_true, ck_v, ck_x, Option.toList, List.cons_append, List.nil_append, kil_nil, N_1, o10, o00, exN_0, exN_1, exN_2, exN_3, exN_4, exN_5, Ex, true_or]
      | some c =>
        rw [hb] at hc
        have hcn : (some c = none) = False := eq_false (fun q => by cases q)
        simp only [s69_0, s69_1, s69_2, s69_5, s69_8, s69_11, s69_12, s69_15, s69_16, s69_17, hR.s.2.1, hp, hlt, hc, hcn, if_false, if_true, ck_v, ck_x, Option.toList, List.cons_append, List.nil_append, kil_nil, N_1, o10, o00, exN_0, exN_1, exN_2, exN_3, exN_4, exN_5, Ex, or_true]
    rw [hrun]
    unfold dfs
    cases hb : bestC V q with
    | none => exact ⟨_, rfl, setI_ne (by simp), hF _⟩
    | some c => exact ⟨_, rfl, setI_ne (by simp), hF _, by rw [setI_at, if_pos rfl]; rfl, fun i k e he => by simp at he⟩
  | l + 1, m, V, I0, hW, hQ, hN, hS, hp, hm => by
    have h7 := hW.2.1
    have hl7 := ls_7 (V := V) (e := qs q) h7
    have hlt : (N m < N (m + (l + 1))) = True := N_lt1 (by omega) (by omega)
    -- the loop over the channels of the i-th of the net, k
    have hC : ∀ (i k : Nat), (Ls V (qs q))[i]? = some k → some k ≠ qt q → ∀ (r c : Nat) (J : OId → Nat → Int32), c + r = 8 → (∀ x, x ≠ i → J (28, 0, 0) x = I0 (28, 0, 0) x) → FT m I0 J → match gs (fun c => if canM V q k c = true then (dfs q l (chV V k c)).map (fun r => ((k, c) :: r.1, r.2)) else none) r c with
        | none => ∃ J', ev (evm (d + 2 * l + 4)) 75 38 [some (aR (8, 0, 0)), some (aI (N i)), some (aI (N m)), some (aR (28, 0, 0)), some (aI (vf V k 3)), some (aI (N (opn V (Ls V (qs q)) i k &&& (255 - 2 ^ chn V k)))), some (aI 0), some (aI (N c))] [] [] (J, M, R, G) = ev (evm (d + 2 * l + 4)) 75 106 [some (aR (8, 0, 0)), some (aI (N i)), some (aI (N m)), some (aR (28, 0, 0)), some (aI (vf V k 3)), some (aI (N (opn V (Ls V (qs q)) i k &&& (255 - 2 ^ chn V k)))), some (aI 0), some (aI (N 8))] [] [] (J', M, R, G) ∧ (∀ x, x ≠ i → J' (28, 0, 0) x = I0 (28, 0, 0) x) ∧ FT m I0 J'
        | some r => ∃ J' c', ev (evm (d + 2 * l + 4)) 75 38 [some (aR (8, 0, 0)), some (aI (N i)), some (aI (N m)), some (aR (28, 0, 0)), some (aI (vf V k 3)), some (aI (N (opn V (Ls V (qs q)) i k &&& (255 - 2 ^ chn V k)))), some (aI 0), some (aI (N c))] [] [] (J, M, R, G) = ev (evm (d + 2 * l + 4)) 75 106 [some (aR (8, 0, 0)), some (aI (N i)), some (aI (N m)), some (aR (28, 0, 0)), some (aI (vf V k 3)), some (aI (N (opn V (Ls V (qs q)) i k &&& (255 - 2 ^ chn V k)))), some (aI 1), some (aI (N c'))] [] [] (J', M, R, G) ∧ (∀ x, x ≠ i → J' (28, 0, 0) x = I0 (28, 0, 0) x) ∧ FT m I0 J' ∧ GT m V r J' := by
      intro i k hi ht r
      have hil := (ls_get hi).1
      have hkn := ls_m k (ls_get hi).2
      have hop : opn V (Ls V (qs q)) i k &&& (255 - 2 ^ chn V k) < 256 := Nat.lt_of_le_of_lt Nat.and_le_left (by unfold opn; omega)
      induction r with
      | zero =>
        intro c J hc h28 hF
        have e8 : c = 8 := by omega
        subst e8
        refine ⟨J, ?_, h28, hF⟩
        have e8 : ((8 : Int32) ≤ N 8) = True := N_ge1 (a := 8) (b := 8) (Nat.le_refl _) (by decide)
        rw [s75_38]
        simp only [s75_40, s75_42, e8, if_true]
      | succ r ih =>
        intro c J hc h28 hF
        have hc8 : c < 8 := by omega
        have e8 : ((8 : Int32) ≤ N c) = False := N_ge (a := c) (b := 8) (by omega) (by decide)
        have hb := can_bit hW hi ht hc8
        have eh := fun (S : SS) => has_ok (d := d + 2 * l + 3) (S := S) (m := opn V (Ls V (qs q)) i k &&& (255 - 2 ^ chn V k)) (c := c) (by omega) (by omega)
        unfold gs
        by_cases hm1 : canM V q k c = true
        · rw [if_pos hm1]
          rw [hm1] at hb
          obtain ⟨J2, hJ2⟩ : ∃ J2, J2 = setI (smI J m (vf V k 0) (vf V k 3) (N c)) (28, 0, 0) i (N c) := ⟨_, rfl⟩
          have hJ2o : ∀ o, o ≠ (28, 0, 0) → J2 o = smI J m (vf V k 0) (vf V k 3) (N c) o := fun o h => by rw [hJ2, setI_ne h]
          have hJ228 : ∀ x, J2 (28, 0, 0) x = if x = i then N c else I0 (28, 0, 0) x := fun x => by
            rw [hJ2, setI_at, smI_o (by simp) (by simp) (by simp)]
            by_cases hx : x = i
            · rw [if_pos hx, if_pos hx]
            · rw [if_neg hx, if_neg hx, h28 x hx]
          have hF2 : FT m I0 J2 := hJ2 ▸ (hF.tr smI_ft).tr FT.c28
          have hNc : NT J2 (chV V k c) (Ls V (qs q)) := nt_ch hN hF2 hi (fun i j k => lsl_inj) hJ228
          have hSc : SV J2 (chV V k c) q (Ls V (qs q)) := sv_ch (hS.ft hF2)
          have r22 : J2 (22, 8, 0) m = vf V k 0 := by
            rw [hJ2o _ (by simp)]
            unfold smI
            rw [setI_ne (by simp), setI_ne (by simp), setI_at, if_pos rfl]
          have r23 : J2 (23, 8, 0) m = vf V k 3 := by
            rw [hJ2o _ (by simp)]
            unfold smI
            rw [setI_ne (by simp), setI_at, if_pos rfl]
          have r24 : J2 (24, 8, 0) m = N c := by
            rw [hJ2o _ (by simp)]
            unfold smI
            rw [setI_at, if_pos rfl]
          have hI := try_ok hR l (m + 1) (chV V k c) J2 (wv_ch hW hc8) hQ (by rw [ls_ch]; exact hNc) (by rw [ls_ch]; exact hSc) (by rw [hF2.2.1 0 (by decide), hp]; exact congrArg N (by omega)) (by omega)
          have g27 : J (27, 0, 0) i = vf V k 0 := by rw [hF.1 _ (by simp) (by simp) (by simp) (by simp) (by simp)]; exact (hN.2 i k hi).2.1
          cases hd : dfs q l (chV V k c) with
          | some r' =>
            rw [hd] at hI
            obtain ⟨J3, e1, a1, a2, a3, a4⟩ := hI
            refine ⟨J3, c + 1, ?_, fun x hx => by rw [a1, hJ228, if_neg hx], hF2.tr (a2.le (by omega)), a3, ?_⟩
            · rw [s75_38]
              simp only [m75, s75_0, s75_1, s75_4, s75_7, s75_8, s75_9, s75_10, s75_13, s75_15, s75_16, s75_19, s75_20, s75_23, s75_24, s75_26, s75_27, s75_28, s75_29, s75_30, s75_32, s75_33, s75_35, s75_36, s75_40, s75_42, s75_45, s75_47, s75_50, s75_52, s75_53, s75_55, s75_58, s75_61, s75_62, s75_65, s75_66, s75_67, s75_70, s75_73, s75_74, s75_77, s75_79, s75_81, s75_84, s75_85, s75_86, s75_88, s75_91, s75_92, s75_93, s75_94, s75_95, s75_98, s75_100, s75_103, s75_107, s75_108, s75_110, s75_113, s75_115, e8, N2L _ hop, eh, hb, hR.s.1, hR.s.2.1, hR.n.2.1, get_N (S := (J, M, R, G)) k27 (fun _ => rfl) (show i < 7 by omega) (by decide), g27, setMove_ok hR (show m < 2 by omega), put_N (S := (smI J m (vf V k 0) (vf V k 3) (N c), M, R, G)) (o := (28, 0, 0)) k28 rfl (show i < 7 by omega) (by decide), if_false, if_true, ck_v, ck_x, Option.toList, List.cons_append, List.nil_append, kil_nil, N_1, o10, o00, exN_0, exN_1, exN_2, exN_3, exN_4, exN_5, Ex]
              rw [← hJ2]
              simp only [e1, m75, s75_0, s75_1, s75_4, s75_7, s75_8, s75_9, s75_10, s75_13, s75_15, s75_16, s75_19, s75_20, s75_23, s75_24, s75_26, s75_27, s75_28, s75_29, s75_30, s75_32, s75_33, s75_35, s75_36, s75_40, s75_42, s75_45, s75_47, s75_50, s75_52, s75_53, s75_55, s75_58, s75_61, s75_62, s75_65, s75_66, s75_67, s75_70, s75_73, s75_74, s75_77, s75_79, s75_81, s75_84, s75_85, s75_86, s75_88, s75_91, s75_92, s75_93, s75_94, s75_95, s75_98, s75_100, s75_103, s75_107, s75_108, s75_110, s75_113, s75_115, if_false, if_true, ck_v, ck_x, Option.toList, List.cons_append, List.nil_append, kil_nil, N_1, o10, o00, exN_0, exN_1, exN_2, exN_3, exN_4, exN_5, Ex]
              by_cases hc9 : c + 1 = 8
              · rw [s75_38]
                have e9 : ((8 : Int32) ≤ N (c + 1)) = True := N_ge1 (a := c + 1) (b := 8) (by omega) (by omega)
                simp only [s75_40, s75_42, e9, if_true]
              · rw [s75_38]
                have e9 : ((8 : Int32) ≤ N (c + 1)) = False := N_ge (a := c + 1) (b := 8) (by omega) (by decide)
                simp only [s75_40, s75_42, e9, s75_45, s75_47, o10, if_false]
            · intro x k' e' he
              cases x with
              | zero =>
                simp only [List.getElem?_cons_zero, Option.some.injEq, Prod.mk.injEq] at he
                obtain ⟨rfl, rfl⟩ := he
                exact ⟨(a2.2.2 m (by omega)).1.trans r22, (a2.2.2 m (by omega)).2.1.trans r23, (a2.2.2 m (by omega)).2.2.trans r24⟩
              | succ x =>
                rw [List.getElem?_cons_succ] at he
                obtain ⟨b1, b2, b3⟩ := a4 x k' e' he
                rw [show m + (x + 1) = m + 1 + x by omega]
                exact ⟨b1.trans (if_neg (by omega)), b2, b3⟩
          | none =>
            rw [hd] at hI
            obtain ⟨J3, e1, a1, a2⟩ := hI
            have hn := ih (c + 1) J3 (by omega) (fun x hx => by rw [a1, hJ228, if_neg hx]) (hF2.tr (a2.le (by omega)))
            have hrun : ev (evm (d + 2 * l + 4)) 75 38 [some (aR (8, 0, 0)), some (aI (N i)), some (aI (N m)), some (aR (28, 0, 0)), some (aI (vf V k 3)), some (aI (N (opn V (Ls V (qs q)) i k &&& (255 - 2 ^ chn V k)))), some (aI 0), some (aI (N c))] [] [] (J, M, R, G) = ev (evm (d + 2 * l + 4)) 75 38 [some (aR (8, 0, 0)), some (aI (N i)), some (aI (N m)), some (aR (28, 0, 0)), some (aI (vf V k 3)), some (aI (N (opn V (Ls V (qs q)) i k &&& (255 - 2 ^ chn V k)))), some (aI 0), some (aI (N (c + 1)))] [] [] (J3, M, R, G) := by
              rw [s75_38]
              simp only [m75, s75_0, s75_1, s75_4, s75_7, s75_8, s75_9, s75_10, s75_13, s75_15, s75_16, s75_19, s75_20, s75_23, s75_24, s75_26, s75_27, s75_28, s75_29, s75_30, s75_32, s75_33, s75_35, s75_36, s75_40, s75_42, s75_45, s75_47, s75_50, s75_52, s75_53, s75_55, s75_58, s75_61, s75_62, s75_65, s75_66, s75_67, s75_70, s75_73, s75_74, s75_77, s75_79, s75_81, s75_84, s75_85, s75_86, s75_88, s75_91, s75_92, s75_93, s75_94, s75_95, s75_98, s75_100, s75_103, s75_107, s75_108, s75_110, s75_113, s75_115, e8, N2L _ hop, eh, hb, hR.s.1, hR.s.2.1, hR.n.2.1, get_N (S := (J, M, R, G)) k27 (fun _ => rfl) (show i < 7 by omega) (by decide), g27, setMove_ok hR (show m < 2 by omega), put_N (S := (smI J m (vf V k 0) (vf V k 3) (N c), M, R, G)) (o := (28, 0, 0)) k28 rfl (show i < 7 by omega) (by decide), if_false, if_true, ck_v, ck_x, Option.toList, List.cons_append, List.nil_append, kil_nil, N_1, o10, o00, exN_0, exN_1, exN_2, exN_3, exN_4, exN_5, Ex]
              rw [← hJ2]
              simp only [e1, m75, s75_0, s75_1, s75_4, s75_7, s75_8, s75_9, s75_10, s75_13, s75_15, s75_16, s75_19, s75_20, s75_23, s75_24, s75_26, s75_27, s75_28, s75_29, s75_30, s75_32, s75_33, s75_35, s75_36, s75_40, s75_42, s75_45, s75_47, s75_50, s75_52, s75_53, s75_55, s75_58, s75_61, s75_62, s75_65, s75_66, s75_67, s75_70, s75_73, s75_74, s75_77, s75_79, s75_81, s75_84, s75_85, s75_86, s75_88, s75_91, s75_92, s75_93, s75_94, s75_95, s75_98, s75_100, s75_103, s75_107, s75_108, s75_110, s75_113, s75_115, if_false, if_true, ck_v, ck_x, Option.toList, List.cons_append, List.nil_append, kil_nil, N_1, o10, o00, exN_0, exN_1, exN_2, exN_3, exN_4, exN_5, Ex]
            rw [hrun]
            exact hn
        · rw [if_neg hm1]
          rw [Bool.not_eq_true] at hm1
          rw [hm1] at hb
          have hn := ih (c + 1) J (by omega) h28 hF
          have hrun : ev (evm (d + 2 * l + 4)) 75 38 [some (aR (8, 0, 0)), some (aI (N i)), some (aI (N m)), some (aR (28, 0, 0)), some (aI (vf V k 3)), some (aI (N (opn V (Ls V (qs q)) i k &&& (255 - 2 ^ chn V k)))), some (aI 0), some (aI (N c))] [] [] (J, M, R, G) = ev (evm (d + 2 * l + 4)) 75 38 [some (aR (8, 0, 0)), some (aI (N i)), some (aI (N m)), some (aR (28, 0, 0)), some (aI (vf V k 3)), some (aI (N (opn V (Ls V (qs q)) i k &&& (255 - 2 ^ chn V k)))), some (aI 0), some (aI (N (c + 1)))] [] [] (J, M, R, G) := by
            rw [s75_38]
            simp only [m75, s75_0, s75_1, s75_4, s75_7, s75_8, s75_9, s75_10, s75_13, s75_15, s75_16, s75_19, s75_20, s75_23, s75_24, s75_26, s75_27, s75_28, s75_29, s75_30, s75_32, s75_33, s75_35, s75_36, s75_40, s75_42, s75_45, s75_47, s75_50, s75_52, s75_53, s75_55, s75_58, s75_61, s75_62, s75_65, s75_66, s75_67, s75_70, s75_73, s75_74, s75_77, s75_79, s75_81, s75_84, s75_85, s75_86, s75_88, s75_91, s75_92, s75_93, s75_94, s75_95, s75_98, s75_100, s75_103, s75_107, s75_108, s75_110, s75_113, s75_115, e8, N2L _ hop, eh, hb, Bool.false_eq_true, if_false, if_true, ck_v, ck_x, Option.toList, List.cons_append, List.nil_append, kil_nil, N_1, o10, o00, exN_0, exN_1, exN_2, exN_3, exN_4, exN_5, Ex]
          rw [hrun]
          exact hn
    -- one of the net, whole
    have hT : ∀ (i k : Nat), (Ls V (qs q))[i]? = some k → some k ≠ qt q → ∀ (J : OId → Nat → Int32), J (28, 0, 0) = I0 (28, 0, 0) → FT m I0 J → match gs (fun c => if canM V q k c = true then (dfs q l (chV V k c)).map (fun r => ((k, c) :: r.1, r.2)) else none) 8 0 with
        | none => ∃ J', evm (d + 2 * l + 5) 75 [aR (8, 0, 0), aI (N i), aI (N m)] (J, M, R, G) = some (.inl (some (aI 0)), (J', M, R, G)) ∧ J' (28, 0, 0) = I0 (28, 0, 0) ∧ FT m I0 J'
        | some r => ∃ J', evm (d + 2 * l + 5) 75 [aR (8, 0, 0), aI (N i), aI (N m)] (J, M, R, G) = some (.inl (some (aI 1)), (J', M, R, G)) ∧ J' (28, 0, 0) = I0 (28, 0, 0) ∧ FT m I0 J' ∧ GT m V r J' := by
      intro i k hi ht J h28 hF
      have hil := (ls_get hi).1
      have hkn := ls_m k (ls_get hi).2
      obtain ⟨f, hf, ef⟩ := hW.ch hkn
      have ecf : chn V k = f := by unfold chn; rw [ef, N_cl (by omega)]
      have hNJ := hN.ft hF h28
      have e28 : J (28, 0, 0) i = vf V k 3 := by rw [h28]; exact (hN.2 i k hi).2.2.1
      have hop8 : opn V (Ls V (qs q)) i k < 256 := by unfold opn; omega
      have hopen := openTo_ok (d := d + 2 * l + 1) (M := M) (G := G) hR hW hNJ hl7 ls_m hi
      have hclr : (N (opn V (Ls V (qs q)) i k) &&& ((1 : Int32) <<< (vf V k 3 &&& 31) ^^^ (-1))) = N (opn V (Ls V (qs q)) i k &&& (255 - 2 ^ chn V k)) := by
        rw [ecf, ef]
        exact clr_tab _ hop8 f hf
      have h1 := hC i k hi ht 8 0 J (by omega) (fun x _ => by rw [h28]) hF
      have hrun : evm (d + 2 * l + 5) 75 [aR (8, 0, 0), aI (N i), aI (N m)] (J, M, R, G) = ev (evm (d + 2 * l + 4)) 75 38 [some (aR (8, 0, 0)), some (aI (N i)), some (aI (N m)), some (aR (28, 0, 0)), some (aI (vf V k 3)), some (aI (N (opn V (Ls V (qs q)) i k &&& (255 - 2 ^ chn V k)))), some (aI 0), some (aI (N 0))] [] [] (J, M, R, G) := by
        rw [m75]
        simp only [s75_0, s75_1, s75_4, s75_7, s75_8, s75_9, s75_10, s75_13, s75_15, s75_16, s75_19, s75_20, s75_23, s75_24, s75_26, s75_27, s75_28, s75_29, s75_30, s75_32, s75_33, s75_35, s75_36, hR.s.1, hR.n.2.2.1, get_N (S := (J, M, R, G)) k28 (fun _ => rfl) (show i < 7 by omega) (by decide), e28, hopen, hclr, if_false, if_true, ck_v, ck_x, Option.toList, List.cons_append, List.nil_append, kil_nil, N_1, o10, o00, exN_0, exN_1, exN_2, exN_3, exN_4, exN_5, Ex]
        rfl
      have hback : ∀ J' : OId → Nat → Int32, (∀ x, x ≠ i → J' (28, 0, 0) x = I0 (28, 0, 0) x) → setI J' (28, 0, 0) i (vf V k 3) (28, 0, 0) = I0 (28, 0, 0) := fun J' hx => by
        funext x
        rw [setI_at]
        by_cases hxi : x = i
        · rw [if_pos hxi, hxi]
          exact (hN.2 i k hi).2.2.1.symm
        · rw [if_neg hxi, hx x hxi]
      rw [hrun]
      cases hg : gs (fun c => if canM V q k c = true then (dfs q l (chV V k c)).map (fun r => ((k, c) :: r.1, r.2)) else none) 8 0 with
      | none =>
        rw [hg] at h1
        obtain ⟨J', e1, a1, a2⟩ := h1
        refine ⟨setI J' (28, 0, 0) i (vf V k 3), ?_, hback J' a1, a2.tr FT.c28⟩
        rw [e1, s75_106]
        simp only [m75, s75_0, s75_1, s75_4, s75_7, s75_8, s75_9, s75_10, s75_13, s75_15, s75_16, s75_19, s75_20, s75_23, s75_24, s75_26, s75_27, s75_28, s75_29, s75_30, s75_32, s75_33, s75_35, s75_36, s75_40, s75_42, s75_45, s75_47, s75_50, s75_52, s75_53, s75_55, s75_58, s75_61, s75_62, s75_65, s75_66, s75_67, s75_70, s75_73, s75_74, s75_77, s75_79, s75_81, s75_84, s75_85, s75_86, s75_88, s75_91, s75_92, s75_93, s75_94, s75_95, s75_98, s75_100, s75_103, s75_106, s75_107, s75_108, s75_110, s75_113, s75_115, put_N (S := (J', M, R, G)) (o := (28, 0, 0)) k28 rfl (show i < 7 by omega) (by decide), if_false, if_true, ck_v, ck_x, Option.toList, List.cons_append, List.nil_append, kil_nil, N_1, o10, o00, exN_0, exN_1, exN_2, exN_3, exN_4, exN_5, Ex, true_or]
      | some r' =>
        rw [hg] at h1
        obtain ⟨J', c', e1, a1, a2, a3, a4⟩ := h1
        refine ⟨setI J' (28, 0, 0) i (vf V k 3), ?_, hback J' a1, a2.tr FT.c28, ?_, fun x k' e' he => ?_⟩
        · rw [e1, s75_106]
          simp only [m75, s75_0, s75_1, s75_4, s75_7, s75_8, s75_9, s75_10, s75_13, s75_15, s75_16, s75_19, s75_20, s75_23, s75_24, s75_26, s75_27, s75_28, s75_29, s75_30, s75_32, s75_33, s75_35, s75_36, s75_40, s75_42, s75_45, s75_47, s75_50, s75_52, s75_53, s75_55, s75_58, s75_61, s75_62, s75_65, s75_66, s75_67, s75_70, s75_73, s75_74, s75_77, s75_79, s75_81, s75_84, s75_85, s75_86, s75_88, s75_91, s75_92, s75_93, s75_94, s75_95, s75_98, s75_100, s75_103, s75_106, s75_107, s75_108, s75_110, s75_113, s75_115, put_N (S := (J', M, R, G)) (o := (28, 0, 0)) k28 rfl (show i < 7 by omega) (by decide), if_false, if_true, ck_v, ck_x, Option.toList, List.cons_append, List.nil_append, kil_nil, N_1, o10, o00, exN_0, exN_1, exN_2, exN_3, exN_4, exN_5, Ex, or_true]
        · rw [setI_ne (by simp)]; exact a3
        · rw [setI_ne (by simp), setI_ne (by simp), setI_ne (by simp)]
          exact a4 x k' e' he
    -- the loop over the net
    have hK : ∀ (r i : Nat) (J : OId → Nat → Int32), i + r = (Ls V (qs q)).length → J (28, 0, 0) = I0 (28, 0, 0) → FT m I0 J → match gs (fun i => match (Ls V (qs q))[i]? with | some k => gs (fun c => if canM V q k c = true then (dfs q l (chV V k c)).map (fun r => ((k, c) :: r.1, r.2)) else none) 8 0 | none => none) r i with
        | none => ∃ J', ev (evm (d + 2 * l + 5)) 69 18 [some (aR (8, 0, 0)), some (aI (N m)), some (aI (N i))] [] [] (J, M, R, G) = some (.inl (some (aI 0)), (J', M, R, G)) ∧ J' (28, 0, 0) = I0 (28, 0, 0) ∧ FT m I0 J'
        | some r => ∃ J', ev (evm (d + 2 * l + 5)) 69 18 [some (aR (8, 0, 0)), some (aI (N m)), some (aI (N i))] [] [] (J, M, R, G) = some (.inl (some (aI 1)), (J', M, R, G)) ∧ J' (28, 0, 0) = I0 (28, 0, 0) ∧ FT m I0 J' ∧ GT m V r J' := by
      intro r
      induction r with
      | zero =>
        intro i J hi h28 hF
        refine ⟨J, ?_, h28, hF⟩
        have h6 : J (6, 0, 0) 0 = N (Ls V (qs q)).length := (hN.ft hF h28).1
        have hi' : i = (Ls V (qs q)).length := by omega
        rw [s69_18]
        simp only [m69, s69_0, s69_1, s69_2, s69_5, s69_8, s69_11, s69_12, s69_15, s69_16, s69_17, s69_19, s69_20, s69_23, s69_26, s69_29, s69_30, s69_31, s69_34, s69_37, s69_38, s69_39, s69_40, s69_43, s69_46, s69_47, s69_48, s69_51, s69_54, s69_55, hR.s.1, h6, hi', N_ge1 (Nat.le_refl (Ls V (qs q)).length) (show (Ls V (qs q)).length < 2147483648 from Nat.lt_of_le_of_lt hl7 (by decide)), if_false, if_true, ck_v, ck_x, Option.toList, List.cons_append, List.nil_append, kil_nil, N_1, o10, o00, exN_0, exN_1, exN_2, exN_3, exN_4, exN_5, Ex, true_or]
      | succ r ih =>
        intro i J hi h28 hF
        have hil : i < (Ls V (qs q)).length := by omega
        obtain ⟨k, hk⟩ : ∃ k, (Ls V (qs q))[i]? = some k := ⟨(Ls V (qs q))[i], List.getElem?_eq_getElem hil⟩
        have h6 : J (6, 0, 0) 0 = N (Ls V (qs q)).length := (hN.ft hF h28).1
        have hSJ := hS.ft hF
        have hheld := hSJ.2.1 i k hk
        have hge : (N (Ls V (qs q)).length ≤ N i) = False := N_ge hil (Nat.lt_of_le_of_lt hl7 (by decide))
        unfold gs
        rw [hk]
        dsimp only
        by_cases ht : some k = qt q
        · have eh : (N i = J (8, 0, 0) 6) = True := by rw [hheld]; exact eq_true ht
          have eF : gs (fun c => if canM V q k c = true then (dfs q l (chV V k c)).map (fun r => ((k, c) :: r.1, r.2)) else none) 8 0 = none := gs_no (fun c _ _ => by
            have : canM V q k c = false := by unfold canM; simp [ht]
            rw [this]; rfl)
          rw [eF]
          have hn := ih (i + 1) J (by omega) h28 hF
          have hrun : ev (evm (d + 2 * l + 5)) 69 18 [some (aR (8, 0, 0)), some (aI (N m)), some (aI (N i))] [] [] (J, M, R, G) = ev (evm (d + 2 * l + 5)) 69 18 [some (aR (8, 0, 0)), some (aI (N m)), some (aI (N (i + 1)))] [] [] (J, M, R, G) := by
            rw [s69_18]
            simp only [m69, s69_0, s69_1, s69_2, s69_5, s69_8, s69_11, s69_12, s69_15, s69_16, s69_17, s69_19, s69_20, s69_23, s69_26, s69_29, s69_30, s69_31, s69_34, s69_37, s69_38, s69_39, s69_40, s69_43, s69_46, s69_47, s69_48, s69_51, s69_54, s69_55, hR.s.1, h6, hge, eh, if_false, if_true, ck_v, ck_x, Option.toList, List.cons_append, List.nil_append, kil_nil, N_1, o10, o00, exN_0, exN_1, exN_2, exN_3, exN_4, exN_5, Ex]
          rw [hrun]
          exact hn
        · have eh : (N i = J (8, 0, 0) 6) = False := by rw [hheld]; exact eq_false ht
          have h1 := hT i k hk ht J h28 hF
          cases hg : gs (fun c => if canM V q k c = true then (dfs q l (chV V k c)).map (fun r => ((k, c) :: r.1, r.2)) else none) 8 0 with
          | some r' =>
            rw [hg] at h1
            obtain ⟨J', e1, a1, a2, a3⟩ := h1
            refine ⟨J', ?_, a1, a2, a3⟩
            rw [s69_18]
            simp only [m69, s69_0, s69_1, s69_2, s69_5, s69_8, s69_11, s69_12, s69_15, s69_16, s69_17, s69_19, s69_20, s69_23, s69_26, s69_29, s69_30, s69_31, s69_34, s69_37, s69_38, s69_39, s69_40, s69_43, s69_46, s69_47, s69_48, s69_51, s69_54, s69_55, hR.s.1, h6, hge, eh, e1, if_false, if_true, ck_v, ck_x, Option.toList, List.cons_append, List.nil_append, kil_nil, N_1, o10, o00, exN_0, exN_1, exN_2, exN_3, exN_4, exN_5, Ex, or_true]
          | none =>
            rw [hg] at h1
            obtain ⟨J', e1, a1, a2⟩ := h1
            have hn := ih (i + 1) J' (by omega) a1 a2
            have hrun : ev (evm (d + 2 * l + 5)) 69 18 [some (aR (8, 0, 0)), some (aI (N m)), some (aI (N i))] [] [] (J, M, R, G) = ev (evm (d + 2 * l + 5)) 69 18 [some (aR (8, 0, 0)), some (aI (N m)), some (aI (N (i + 1)))] [] [] (J', M, R, G) := by
              rw [s69_18]
              simp only [m69, s69_0, s69_1, s69_2, s69_5, s69_8, s69_11, s69_12, s69_15, s69_16, s69_17, s69_19, s69_20, s69_23, s69_26, s69_29, s69_30, s69_31, s69_34, s69_37, s69_38, s69_39, s69_40, s69_43, s69_46, s69_47, s69_48, s69_51, s69_54, s69_55, hR.s.1, h6, hge, eh, e1, if_false, if_true, ck_v, ck_x, Option.toList, List.cons_append, List.nil_append, kil_nil, N_1, o10, o00, exN_0, exN_1, exN_2, exN_3, exN_4, exN_5, Ex]
            rw [hrun]
            exact hn
    have hd9 : dfs q (l + 1) V = gs (fun i => match (Ls V (qs q))[i]? with | some k => gs (fun c => if canM V q k c = true then (dfs q l (chV V k c)).map (fun r => ((k, c) :: r.1, r.2)) else none) 8 0 | none => none) (Ls V (qs q)).length 0 := gs_ls (vn V) (fun k _ hq => gs_no (fun c _ _ => by
      have : canM V q k c = false := by
        unfold canM
        by_cases h1 : some k = qs q
        · simp [h1]
        · by_cases h2 : vl V k = true
          · exact absurd ⟨h2, h1⟩ hq
          · simp [h2]
      rw [this]; rfl))
    have hfin := hK (Ls V (qs q)).length 0 I0 (by omega) rfl FT.rf
    have hrun : evm (d + 2 * (l + 1) + 4) 69 [aR (8, 0, 0), aI (N m)] (I0, M, R, G) = ev (evm (d + 2 * l + 5)) 69 18 [some (aR (8, 0, 0)), some (aI (N m)), some (aI (N 0))] [] [] (I0, M, R, G) := by
      show evm (d + 2 * l + 5 + 1) 69 [aR (8, 0, 0), aI (N m)] (I0, M, R, G) = _
      rw [m69]
      simp only [s69_0, s69_1, s69_2, s69_5, s69_8, s69_11, s69_12, s69_15, s69_16, s69_17, hR.s.2.1, hp, hlt, if_false, if_true, ck_v, ck_x, Option.toList, List.cons_append, List.nil_append, kil_nil, N_1, o10, o00, exN_0, exN_1, exN_2, exN_3, exN_4, exN_5, Ex]
      rfl
    rw [hrun, hd9]
    exact hfin
end TRY
