/-! THE METHODS' MEANING: the class's net -/
/-- the licensed of the first k stations, but one -/
def lsl (V : Vw) (e : Option Nat) : Nat → List Nat
  | 0 => []
  | k + 1 => if vl V k = true ∧ some k ≠ e then lsl V e k ++ [k] else lsl V e k
abbrev Ls (V : Vw) (e : Option Nat) : List Nat := lsl V e (vn V)
theorem lsl_len {V : Vw} {e : Option Nat} : ∀ k, (lsl V e k).length ≤ k
  | 0 => Nat.le_refl 0
  | k + 1 => by
    have := lsl_len (V := V) (e := e) k
    unfold lsl
    split
    · rw [List.length_append]
      show _ + 1 ≤ _
      omega
    · omega
theorem lsl_mem {V : Vw} {e : Option Nat} {j : Nat} : ∀ {k : Nat}, j ∈ lsl V e k ↔ j < k ∧ vl V j = true ∧ some j ≠ e
  | 0 => by simp [lsl]
  | k + 1 => by
    have ih := lsl_mem (V := V) (e := e) (j := j) (k := k)
    unfold lsl
    split
    · rename_i h
      rw [List.mem_append, ih, List.mem_singleton]
      refine ⟨fun q => ?_, fun q => ?_⟩
      · rcases q with q | q
        · exact ⟨by omega, q.2⟩
        · subst q
          exact ⟨by omega, h⟩
      · by_cases hj : j = k
        · exact Or.inr hj
        · exact Or.inl ⟨by omega, q.2⟩
    · rename_i h
      rw [ih]
      refine ⟨fun q => ⟨by omega, q.2⟩, fun q => ?_⟩
      by_cases hj : j = k
      · subst hj
        exact absurd q.2 h
      · exact ⟨by omega, q.2⟩
theorem ls_get {L : List Nat} {i k : Nat} (h : L[i]? = some k) : i < L.length ∧ k ∈ L := by
  refine ⟨?_, List.mem_of_getElem? h⟩
  rcases Nat.lt_or_ge i L.length with q | q
  · exact q
  · rw [List.getElem?_eq_none q] at h
    cases h
theorem lsl_inj {V : Vw} {e : Option Nat} : ∀ {n i j k : Nat}, (lsl V e n)[i]? = some k → (lsl V e n)[j]? = some k → i = j
  | 0, i, j, k, h, _ => by simp [lsl] at h
  | n + 1, i, j, k, h, h' => by
    unfold lsl at h h'
    by_cases hc : vl V n = true ∧ some n ≠ e
    · rw [if_pos hc] at h h'
      have hm : ∀ {x}, (lsl V e n)[x]? = some k → k < n := fun hx => (lsl_mem.mp (ls_get hx).2).1
      by_cases hi : i < (lsl V e n).length
      · rw [List.getElem?_append_left hi] at h
        by_cases hj : j < (lsl V e n).length
        · rw [List.getElem?_append_left hj] at h'
          exact lsl_inj h h'
        · rw [List.getElem?_append_right (by omega)] at h'
          have := hm h
          have h2 := List.mem_of_getElem? h'
          rw [List.mem_singleton] at h2
          omega
      · rw [List.getElem?_append_right (by omega)] at h
        have h1 := List.mem_of_getElem? h
        rw [List.mem_singleton] at h1
        have hi2 := (ls_get h).1
        by_cases hj : j < (lsl V e n).length
        · rw [List.getElem?_append_left hj] at h'
          have := hm h'
          omega
        · rw [List.getElem?_append_right (by omega)] at h'
          have hj2 := (ls_get h').1
          simp only [List.length_singleton] at hi2 hj2
          omega
    · rw [if_neg hc] at h h'
      exact lsl_inj h h'
def srO (o : OId) : Prop := o.1 = 6 ∨ o.1 = 8 ∨ (26 ≤ o.1 ∧ o.1 ≤ 34) ∨ (o.2.1 = 8 ∧ (o.1 = 7 ∨ o.1 = 22 ∨ o.1 = 23 ∨ o.1 = 24))
def FS (I I' : OId → Nat → Int32) : Prop := ∀ o, ¬ srO o → I' o = I o
def netO (o : OId) : Prop := o = (6, 0, 0) ∨ o = (26, 0, 0) ∨ o = (27, 0, 0) ∨ o = (28, 0, 0) ∨ o = (29, 0, 0)
def FN (I I' : OId → Nat → Int32) : Prop := ∀ o, ¬ netO o → I' o = I o
def NT (I : OId → Nat → Int32) (V : Vw) (L : List Nat) : Prop := I (6, 0, 0) 0 = N L.length ∧ ∀ i k, L[i]? = some k → I (26, 0, 0) i = N k ∧ I (27, 0, 0) i = vf V k 0 ∧ I (28, 0, 0) i = vf V k 3 ∧ ∀ j m, L[j]? = some m → j ≠ i → I (29, 0, 0) (7 * i + j) = spv V k m
section NET
variable {d : Nat} {I I' I'' : OId → Nat → Int32} {M R : OId → Nat → AV} {G : SG} {V : Vw} {L : List Nat}
theorem FS.rf : FS I I := fun _ _ => rfl
theorem FS.tr (h : FS I I') (h' : FS I' I'') : FS I I'' := fun o ho => (h' o ho).trans (h o ho)
theorem FS.st {o : OId} {f : Nat} {x : Int32} (h : FS I I') (ho : srO o) : FS I (setI I' o f x) := fun q hq => by
  rw [setI_ne (by intro e; subst e; exact hq ho)]
  exact h q hq
theorem cr_sr {o : OId} (h : crO o) : ¬ srO o := fun q => by
  rcases h with ⟨j, hj, h1, h2⟩ | rfl | rfl
  · rcases q with q | q | q | q
    · omega
    · omega
    · omega
    · omega
  · rcases q with q | q | q | q <;> simp at q
  · rcases q with q | q | q | q <;> simp at q
theorem CR.srch {B : Bk} {hs : List Bk} {sn : Option Bk} (h : CR I B hs sn) (f : FS I I') : CR I' B hs sn := h.fr (fun o ho => f o (cr_sr ho))
theorem bk_sr {o : OId} {j : Nat} (hj : j < 8) (h : inBk j o) : ¬ srO o := cr_sr (crO_b hj h)
theorem BV.srch (h : BV I 0 V) (f : FS I I') : BV I' 0 V := h.fr (fun o ho => f o (bk_sr (by decide) ho))
theorem k26 : kOf (26, 0, 0) = .inr (.int, 7) := rfl
theorem k27 : kOf (27, 0, 0) = .inr (.int, 7) := rfl
theorem k28 : kOf (28, 0, 0) = .inr (.int, 7) := rfl
theorem k29 : kOf (29, 0, 0) = .inr (.int, 49) := rfl
theorem k30 : kOf (30, 0, 0) = .inr (.int, 7) := rfl
theorem RF.n (h : RF R) : R (6, 0, 0) 1 = aR (26, 0, 0) ∧ R (6, 0, 0) 2 = aR (27, 0, 0) ∧ R (6, 0, 0) 3 = aR (28, 0, 0) ∧ R (6, 0, 0) 4 = aR (29, 0, 0) := h.2.2.2.2.1
theorem RF.s (h : RF R) : R (8, 0, 0) 0 = aR (6, 0, 0) ∧ R (8, 0, 0) 1 = aR (7, 8, 0) ∧ R (8, 0, 0) 2 = aR (30, 0, 0) ∧ R (8, 0, 0) 3 = aR (31, 0, 0) ∧ R (8, 0, 0) 4 = aR (32, 0, 0) := h.2.2.2.2.2.1
theorem sr6 : srO (6, 0, 0) := Or.inl rfl
theorem sr8 : srO (8, 0, 0) := Or.inr (Or.inl rfl)
theorem sr2 {a : Nat} (h : 26 ≤ a ∧ a ≤ 34) : srO (a, 0, 0) := Or.inr (Or.inr (Or.inl h))
theorem FN.rf : FN I I := fun _ _ => rfl
theorem FN.tr (h : FN I I') (h' : FN I' I'') : FN I I'' := fun o ho => (h' o ho).trans (h o ho)
theorem FN.fs (h : FN I I') : FS I I' := fun o ho => h o (fun q => by
  rcases q with rfl | rfl | rfl | rfl | rfl
  · exact ho sr6
  · exact ho (sr2 ⟨by decide, by decide⟩)
  · exact ho (sr2 ⟨by decide, by decide⟩)
  · exact ho (sr2 ⟨by decide, by decide⟩)
  · exact ho (sr2 ⟨by decide, by decide⟩))
theorem append_net {p : Nat} (hR : RF R) (hW : WV V) (hV : BV I 0 V) (hN : NT I V L) (hL : L.length < 7) (hm : ∀ k, k ∈ L → k < vn V) (hp : p < vn V) : ∃ I', evm (d + 4) 34 [aR (6, 0, 0), aR (4, 0, 0), aI (N p)] (I, M, R, G) = some (.inl none, (I', M, R, G)) ∧ NT I' V (L ++ [p]) ∧ FN I I' := by
  have h7 := hV.2.2.1
  -- the loop: the separations of the first r are laid
  have hl : ∀ (r k : Nat) (J : OId → Nat → Int32) (l4 : Option AV), k + r = L.length → FS I J → (∀ o, o ≠ (29, 0, 0) → J o = I o) → (∀ x, x % 7 ≠ L.length → x / 7 ≠ L.length → J (29, 0, 0) x = I (29, 0, 0) x) → (∀ i m, i < k → L[i]? = some m → J (29, 0, 0) (7 * i + L.length) = spv V m p ∧ J (29, 0, 0) (7 * L.length + i) = spv V m p) → ∃ J' l4', ev (evm (d + 3)) 34 2 [some (aR (6, 0, 0)), some (aR (4, 0, 0)), some (aI (N p)), some (aI (N k)), l4] [] [] (J, M, R, G) = ev (evm (d + 3)) 34 65 [some (aR (6, 0, 0)), some (aR (4, 0, 0)), some (aI (N p)), some (aI (N L.length)), l4'] [] [] (J', M, R, G) ∧ (∀ o, o ≠ (29, 0, 0) → J' o = I o) ∧ (∀ x, x % 7 ≠ L.length → x / 7 ≠ L.length → J' (29, 0, 0) x = I (29, 0, 0) x) ∧ (∀ i m, i < L.length → L[i]? = some m → J' (29, 0, 0) (7 * i + L.length) = spv V m p ∧ J' (29, 0, 0) (7 * L.length + i) = spv V m p) := by
    intro r
    induction r with
    | zero =>
      intro k J l4 hk hF ho hx hi
      have ek : k = L.length := by omega
      subst ek
      refine ⟨J, l4, ?_, ho, hx, hi⟩
      have e6 : J (6, 0, 0) 0 = N L.length := by rw [ho _ (by simp)]; exact hN.1
      rw [s34_2]
      simp only [m34, s34_0, s34_1, s34_3, s34_4, s34_7, s34_10, s34_11, s34_12, s34_15, s34_16, s34_19, s34_20, s34_23, s34_25, s34_26, s34_29, s34_30, s34_31, s34_34, s34_37, s34_39, s34_42, s34_43, s34_46, s34_47, s34_50, s34_51, s34_54, s34_56, s34_59, s34_62, s34_66, s34_69, s34_70, s34_73, s34_74, s34_77, s34_78, s34_81, s34_82, s34_85, s34_86, s34_87, s34_90, s34_93, s34_96, s34_97, s34_100, s34_101, s34_104, s34_105, s34_106, s34_109, s34_112, s34_115, s34_116, s34_117, s34_120, s34_121, s34_122, s34_125, e6, N_ge1 (Nat.le_refl L.length) (show L.length < 2147483648 by omega), if_false, if_true, ck_v, ck_x, Option.toList, List.cons_append, List.nil_append, kil_nil, N_1, o10, o00, exN_0, exN_1, exN_2, exN_3, exN_4, exN_5, Ex]
    | succ r ih =>
      intro k J l4 hk hF ho hx hi
      have hkl : k < L.length := by omega
      obtain ⟨m, hm1⟩ : ∃ m, L[k]? = some m := ⟨L[k], List.getElem?_eq_getElem hkl⟩
      have hmn : m < vn V := hm m (List.mem_of_getElem? hm1)
      have e6 : J (6, 0, 0) 0 = N L.length := by rw [ho _ (by simp)]; exact hN.1
      have e26 : J (26, 0, 0) k = N m := by rw [ho _ (by simp)]; exact (hN.2 k m hm1).1
      have hVJ : BV J 0 V := hV.srch hF
      obtain ⟨J1, hJ1⟩ : ∃ J1, J1 = setI (setI J (29, 0, 0) (7 * k + L.length) (spv V m p)) (29, 0, 0) (7 * L.length + k) (spv V m p) := ⟨_, rfl⟩
      have hJ1o : ∀ o, o ≠ (29, 0, 0) → J1 o = J o := fun o h => by rw [hJ1, setI_ne h, setI_ne h]
      have hJ1x : ∀ x, J1 (29, 0, 0) x = if x = 7 * L.length + k then spv V m p else if x = 7 * k + L.length then spv V m p else J (29, 0, 0) x := fun x => by rw [hJ1, setI_at, setI_at]
      obtain ⟨J', l4', e1, a1, a2, a3⟩ := ih (k + 1) J1 (some (aI (spv V m p))) (by omega) (hF.tr (fun o h => hJ1o o (by rintro rfl; exact h (sr2 ⟨by decide, by decide⟩)))) (fun o h => (hJ1o o h).trans (ho o h)) (fun x h1 h2 => by
        rw [hJ1x, if_neg (by omega), if_neg (by omega)]
        exact hx x h1 h2) (fun i m' hik hm' => by
        rw [hJ1x, hJ1x]
        by_cases hik2 : i = k
        · subst hik2
          have : m' = m := by rw [hm1] at hm'; cases hm'; rfl
          subst this
          constructor
          · split
            · rfl
            · rw [if_pos rfl]
          · rw [if_pos rfl]
        · have h9 := hi i m' (by omega) hm'
          rw [if_neg (by omega), if_neg (by omega), if_neg (by omega), if_neg (by omega)]
          exact h9)
      refine ⟨J', l4', ?_, a1, a2, a3⟩
      have esp : spB J 0 m p = spv V m p := hVJ.sp hmn hp
      have e6' : ∀ f v, setI J (29, 0, 0) f v (6, 0, 0) 0 = N L.length := fun f v => by rw [setI_ne (by simp)]; exact e6
      rw [s34_2]
      simp only [m34, s34_0, s34_1, s34_3, s34_4, s34_7, s34_10, s34_11, s34_12, s34_15, s34_16, s34_19, s34_20, s34_23, s34_25, s34_26, s34_29, s34_30, s34_31, s34_34, s34_37, s34_39, s34_42, s34_43, s34_46, s34_47, s34_50, s34_51, s34_54, s34_56, s34_59, s34_62, s34_66, s34_69, s34_70, s34_73, s34_74, s34_77, s34_78, s34_81, s34_82, s34_85, s34_86, s34_87, s34_90, s34_93, s34_96, s34_97, s34_100, s34_101, s34_104, s34_105, s34_106, s34_109, s34_112, s34_115, s34_116, s34_117, s34_120, s34_121, s34_122, s34_125, e6, N_ge hkl (show L.length < 2147483648 by omega), hR.n.1, hR.n.2.2.2, get_N (S := (J, M, R, G)) k26 (fun _ => rfl) (show k < 7 by omega) (by decide), e26, spB_ok hR (show 0 < 8 by decide) (show m < 7 by omega) (show p < 7 by omega), esp, pair_N (show k < 7 by omega) hL, pair_N hL (show k < 7 by omega), put_N (S := (J, M, R, G)) (o := (29, 0, 0)) k29 rfl (show 7 * k + L.length < 49 by omega) (by decide), e6', put_N (S := (setI J (29, 0, 0) (7 * k + L.length) (spv V m p), M, R, G)) (o := (29, 0, 0)) k29 rfl (show 7 * L.length + k < 49 by omega) (by decide), if_false, if_true, ck_v, ck_x, Option.toList, List.cons_append, List.nil_append, kil_nil, N_1, o10, o00, exN_0, exN_1, exN_2, exN_3, exN_4, exN_5, Ex]
      rw [← hJ1]
      exact e1
  obtain ⟨J, l4, e1, a1, a2, a3⟩ := hl L.length 0 I none (by omega) FS.rf (fun _ _ => rfl) (fun _ _ _ => rfl) (fun i m hi => by omega)
  have hFJ : FS I J := fun o ho => a1 o (by rintro rfl; exact ho (sr2 ⟨by decide, by decide⟩))
  have hVJ : BV J 0 V := hV.srch hFJ
  have e6 : J (6, 0, 0) 0 = N L.length := by rw [a1 _ (by simp)]; exact hN.1
  obtain ⟨K, hK⟩ : ∃ K, K = setI (setI (setI (setI J (26, 0, 0) L.length (N p)) (27, 0, 0) L.length (vf V p 0)) (28, 0, 0) L.length (vf V p 3)) (6, 0, 0) 0 (N (L.length + 1)) := ⟨_, rfl⟩
  have hK6 : K (6, 0, 0) 0 = N (L.length + 1) := by rw [hK, setI_at, if_pos rfl]
  have hK26 : ∀ x, K (26, 0, 0) x = if x = L.length then N p else I (26, 0, 0) x := fun x => by rw [hK, setI_ne (by simp), setI_ne (by simp), setI_ne (by simp), setI_at, a1 _ (by simp)]
  have hK27 : ∀ x, K (27, 0, 0) x = if x = L.length then vf V p 0 else I (27, 0, 0) x := fun x => by rw [hK, setI_ne (by simp), setI_ne (by simp), setI_at, setI_ne (by simp), a1 _ (by simp)]
  have hK28 : ∀ x, K (28, 0, 0) x = if x = L.length then vf V p 3 else I (28, 0, 0) x := fun x => by rw [hK, setI_ne (by simp), setI_at, setI_ne (by simp), setI_ne (by simp), a1 _ (by simp)]
  have hK29 : ∀ x, K (29, 0, 0) x = J (29, 0, 0) x := fun x => by rw [hK, setI_ne (by simp), setI_ne (by simp), setI_ne (by simp), setI_ne (by simp)]
  refine ⟨K, ?_, ⟨?_, ?_⟩, ?_⟩
  · rw [m34]
    have g0 := hVJ.fl hp (show 0 < 5 by decide)
    have g3 := hVJ.fl hp (show 3 < 5 by decide)
    have n1 : ∀ v, setI J (26, 0, 0) L.length v (6, 0, 0) 0 = N L.length := fun v => by rw [setI_ne (by simp)]; exact e6
    have n2 : ∀ v w, setI (setI J (26, 0, 0) L.length v) (27, 0, 0) L.length w (6, 0, 0) 0 = N L.length := fun v w => by rw [setI_ne (by simp), setI_ne (by simp)]; exact e6
    have n3 : ∀ v w u, setI (setI (setI J (26, 0, 0) L.length v) (27, 0, 0) L.length w) (28, 0, 0) L.length u (6, 0, 0) 0 = N L.length := fun v w u => by rw [setI_ne (by simp), setI_ne (by simp), setI_ne (by simp)]; exact e6
    have g0' : ∀ v, setI J (26, 0, 0) L.length v (10, 0, p) 0 = vf V p 0 := fun v => by rw [setI_ne (by simp)]; exact g0
    have g3' : ∀ v w, setI (setI J (26, 0, 0) L.length v) (27, 0, 0) L.length w (10, 0, p) 3 = vf V p 3 := fun v w => by rw [setI_ne (by simp), setI_ne (by simp)]; exact g3
    simp only [s34_0, s34_1, kil_nil]
    refine e1.trans ?_
    rw [s34_65]
    simp only [m34, s34_0, s34_1, s34_3, s34_4, s34_7, s34_10, s34_11, s34_12, s34_15, s34_16, s34_19, s34_20, s34_23, s34_25, s34_26, s34_29, s34_30, s34_31, s34_34, s34_37, s34_39, s34_42, s34_43, s34_46, s34_47, s34_50, s34_51, s34_54, s34_56, s34_59, s34_62, s34_65, s34_66, s34_69, s34_70, s34_73, s34_74, s34_77, s34_78, s34_81, s34_82, s34_85, s34_86, s34_87, s34_90, s34_93, s34_96, s34_97, s34_100, s34_101, s34_104, s34_105, s34_106, s34_109, s34_112, s34_115, s34_116, s34_117, s34_120, s34_121, s34_122, s34_125, hR.n.1, hR.n.2.1, hR.n.2.2.1, e6, put_N (S := (J, M, R, G)) (o := (26, 0, 0)) k26 rfl hL (by decide), n1, at_N hR (show 0 < 8 by decide) (show p < 7 by omega), g0', put_N (S := (setI J (26, 0, 0) L.length (N p), M, R, G)) (o := (27, 0, 0)) k27 rfl hL (by decide), n2, g3', put_N (S := (setI (setI J (26, 0, 0) L.length (N p)) (27, 0, 0) L.length (vf V p 0), M, R, G)) (o := (28, 0, 0)) k28 rfl hL (by decide), n3, if_false, if_true, ck_v, ck_x, Option.toList, List.cons_append, List.nil_append, kil_nil, N_1, o10, o00, exN_0, exN_1, exN_2, exN_3, exN_4, exN_5, Ex]
    rw [← hK]
  · rw [hK6, List.length_append]; rfl
  · intro i k hik
    by_cases hi : i < L.length
    · rw [List.getElem?_append_left hi] at hik
      obtain ⟨b1, b2, b3, b4⟩ := hN.2 i k hik
      have hk := hm k (List.mem_of_getElem? hik)
      rw [hK26, hK27, hK28, if_neg (by omega), if_neg (by omega), if_neg (by omega)]
      refine ⟨b1, b2, b3, fun j m hj hji => ?_⟩
      rw [hK29]
      by_cases hjl : j < L.length
      · rw [List.getElem?_append_left hjl] at hj
        rw [a2 _ (by omega) (by omega)]
        exact b4 j m hj hji
      · rw [List.getElem?_append_right (by omega)] at hj
        have h1 := (ls_get hj).1
        have h2 := List.mem_of_getElem? hj
        simp only [List.length_singleton] at h1
        rw [List.mem_singleton] at h2
        have ej : j = L.length := by omega
        rw [ej, h2]
        exact (a3 i k hi hik).1
    · rw [List.getElem?_append_right (by omega)] at hik
      have h1 := (ls_get hik).1
      have h2 := List.mem_of_getElem? hik
      simp only [List.length_singleton] at h1
      rw [List.mem_singleton] at h2
      have ei : i = L.length := by omega
      subst h2
      rw [hK26, hK27, hK28, if_pos ei, if_pos ei, if_pos ei]
      refine ⟨rfl, rfl, rfl, fun j m hj hji => ?_⟩
      rw [hK29]
      have hjl : j < L.length := by
        rcases Nat.lt_or_ge j L.length with q | q
        · exact q
        · rw [List.getElem?_append_right q] at hj
          have := (ls_get hj).1
          simp only [List.length_singleton] at this
          omega
      rw [List.getElem?_append_left hjl] at hj
      have hmn := hm m (List.mem_of_getElem? hj)
      rw [ei, (a3 j m hjl hj).2]
      exact spv_c hW hmn hp
  · intro o ho
    rw [hK, setI_ne (by rintro rfl; exact ho (Or.inl rfl)), setI_ne (by rintro rfl; exact ho (Or.inr (Or.inr (Or.inr (Or.inl rfl))))), setI_ne (by rintro rfl; exact ho (Or.inr (Or.inr (Or.inl rfl)))), setI_ne (by rintro rfl; exact ho (Or.inr (Or.inl rfl)))]
    exact a1 o (by rintro rfl; exact ho (Or.inr (Or.inr (Or.inr (Or.inr rfl)))))
theorem load_net {e : Option Nat} (hR : RF R) (hW : WV V) (hV : BV I 0 V) (he : ∀ a, e = some a → a < 100) : ∃ I', evm (d + 5) 33 [aR (6, 0, 0), aR (4, 0, 0), aI (och e)] (I, M, R, G) = some (.inl none, (I', M, R, G)) ∧ NT I' V (Ls V e) ∧ FN I I' := by
  have h7 := hV.2.2.1
  have hl : ∀ (r k : Nat) (J : OId → Nat → Int32), k + r = vn V → FN I J → NT J V (lsl V e k) → ∃ J', ev (evm (d + 4)) 33 7 [some (aR (6, 0, 0)), some (aR (4, 0, 0)), some (aI (och e)), some (aI (N k))] [] [] (J, M, R, G) = some (.inl none, (J', M, R, G)) ∧ FN I J' ∧ NT J' V (Ls V e) := by
    intro r
    induction r with
    | zero =>
      intro k J hk hF hN
      have ek : k = vn V := by omega
      subst ek
      have e7 : J (4, 0, 0) 7 = N (vn V) := (hV.srch hF.fs).2.1
      refine ⟨J, ?_, hF, hN⟩
      rw [s33_7]
      simp only [m33, s33_0, s33_1, s33_2, s33_5, s33_6, s33_8, s33_9, s33_12, s33_15, s33_16, s33_17, s33_20, s33_21, s33_22, s33_25, s33_28, s33_31, s33_32, s33_33, s33_34, s33_37, s33_40, s33_43, e7, N_ge1 (Nat.le_refl (vn V)) (show vn V < 2147483648 by omega), if_false, if_true, ck_v, ck_x, Option.toList, List.cons_append, List.nil_append, kil_nil, N_1, o10, o00, exN_0, exN_1, exN_2, exN_3, exN_4, exN_5, Ex]
    | succ r ih =>
      intro k J hk hF hN
      have hkn : k < vn V := by omega
      have hVJ := hV.srch hF.fs
      have e7 : J (4, 0, 0) 7 = N (vn V) := hVJ.2.1
      have ee : (N k = och e) = (some k = e) := och_eq (by omega) he
      have hb := hVJ.2.2.2.2.1 k hkn
      have hskip : ¬ (vl V k = true ∧ some k ≠ e) → lsl V e (k + 1) = lsl V e k := fun h => by rw [lsl, if_neg h]
      by_cases h1 : some k = e
      · have ep : (N k = och e) = True := by rw [ee]; exact eq_true h1
        obtain ⟨J', e1, a1, a2⟩ := ih (k + 1) J (by omega) hF (by rw [hskip (fun q => q.2 h1)]; exact hN)
        refine ⟨J', ?_, a1, a2⟩
        rw [s33_7]
        simp only [m33, s33_0, s33_1, s33_2, s33_5, s33_6, s33_8, s33_9, s33_12, s33_15, s33_16, s33_17, s33_20, s33_21, s33_22, s33_25, s33_28, s33_31, s33_32, s33_33, s33_34, s33_37, s33_40, s33_43, e7, N_ge hkn (show vn V < 2147483648 by omega), ep, if_false, if_true, ck_v, ck_x, Option.toList, List.cons_append, List.nil_append, kil_nil, N_1, o10, o00, exN_0, exN_1, exN_2, exN_3, exN_4, exN_5, Ex]
        exact e1
      · have ep : (N k = och e) = False := by rw [ee]; exact eq_false h1
        by_cases h2 : vl V k = true
        · rw [if_pos h2] at hb
          have hlen := lsl_len (V := V) (e := e) k
          obtain ⟨J1, e1, n1, f1⟩ := append_net (d := d) (M := M) (G := G) (p := k) hR hW hVJ hN (by omega) (fun j hj => by have := (lsl_mem.mp hj).1; omega) hkn
          obtain ⟨J', e2, a1, a2⟩ := ih (k + 1) J1 (by omega) (hF.tr f1) (by rw [lsl, if_pos ⟨h2, h1⟩]; exact n1)
          refine ⟨J', ?_, a1, a2⟩
          rw [s33_7]
          simp only [m33, s33_0, s33_1, s33_2, s33_5, s33_6, s33_8, s33_9, s33_12, s33_15, s33_16, s33_17, s33_20, s33_21, s33_22, s33_25, s33_28, s33_31, s33_32, s33_33, s33_34, s33_37, s33_40, s33_43, e7, N_ge hkn (show vn V < 2147483648 by omega), ep, at_N hR (show 0 < 8 by decide) (show k < 7 by omega), hb, e1, if_false, if_true, ck_v, ck_x, Option.toList, List.cons_append, List.nil_append, kil_nil, N_1, o10, o00, exN_0, exN_1, exN_2, exN_3, exN_4, exN_5, Ex]
          exact e2
        · rw [if_neg h2] at hb
          obtain ⟨J', e1, a1, a2⟩ := ih (k + 1) J (by omega) hF (by rw [hskip (fun q => h2 q.1)]; exact hN)
          refine ⟨J', ?_, a1, a2⟩
          rw [s33_7]
          simp only [m33, s33_0, s33_1, s33_2, s33_5, s33_6, s33_8, s33_9, s33_12, s33_15, s33_16, s33_17, s33_20, s33_21, s33_22, s33_25, s33_28, s33_31, s33_32, s33_33, s33_34, s33_37, s33_40, s33_43, e7, N_ge hkn (show vn V < 2147483648 by omega), ep, at_N hR (show 0 < 8 by decide) (show k < 7 by omega), hb, if_false, if_true, ck_v, ck_x, Option.toList, List.cons_append, List.nil_append, kil_nil, N_1, o10, o00, exN_0, exN_1, exN_2, exN_3, exN_4, exN_5, Ex]
          exact e1
  have hF0 : FN I (setI I (6, 0, 0) 0 0) := fun o ho => setI_ne (by rintro rfl; exact ho (Or.inl rfl))
  obtain ⟨J', e1, a1, a2⟩ := hl (vn V) 0 _ (by omega) hF0 ⟨by rw [setI_at, if_pos rfl]; rfl, fun i k hi => by simp [lsl] at hi⟩
  refine ⟨J', ?_, a2, a1⟩
  rw [m33]
  simp only [s33_0, s33_1, s33_2, s33_5, s33_6, kil_nil]
  exact e1
end NET
