/-! THE METHODS' MEANING: the class's queue of channels -/
def pkv (g : Nat → Nat) : Nat → Nat
  | 0 => 0
  | n + 1 => pkv g n * 8 + g n
theorem pkv_lt {g : Nat → Nat} (h : ∀ i, g i < 8) : ∀ n, n ≤ 7 → pkv g n < 8 ^ n
  | 0, _ => by show (0 : Nat) < 8 ^ 0; decide
  | n + 1, hn => by
    have ih := pkv_lt h n (by omega)
    have := h n
    rw [Nat.pow_succ]
    show pkv g n * 8 + g n < _
    omega
theorem pkv_7 {g : Nat → Nat} (h : ∀ i, g i < 8) {n : Nat} (hn : n ≤ 7) : pkv g n < 2097152 := Nat.lt_of_lt_of_le (pkv_lt h n hn) (Nat.pow_le_pow_right (show 0 < 8 by decide) hn : 8 ^ n ≤ 8 ^ 7)
/-- the channel of the i-th of the net -/
def gch (V : Vw) (L : List Nat) (i : Nat) : Nat := match L[i]? with | some k => chn V k | none => 0
def pk (V : Vw) (L : List Nat) : Nat := pkv (gch V L) L.length
/-- the net but for its channels -/
def NS (I : OId → Nat → Int32) (V : Vw) (L : List Nat) : Prop := I (6, 0, 0) 0 = N L.length ∧ ∀ i k, L[i]? = some k → I (26, 0, 0) i = N k ∧ I (27, 0, 0) i = vf V k 0 ∧ ∀ j m, L[j]? = some m → j ≠ i → I (29, 0, 0) (7 * i + j) = spv V k m
def CB (V : Vw) (L : List Nat) : Prop := ∀ k, k ∈ L → ∃ c, c < 8 ∧ vf V k 3 = N c
theorem gch_8 {V : Vw} {L : List Nat} (h : CB V L) (i : Nat) : gch V L i < 8 := by
  unfold gch
  cases hL : L[i]? with
  | none => show 0 < 8; decide
  | some k =>
    obtain ⟨c, hc, e⟩ := h k (ls_get hL).2
    show chn V k < 8
    unfold chn
    rw [e, N_cl (by omega)]
    exact hc
theorem gch_n {V : Vw} {L : List Nat} (h : CB V L) {i k : Nat} (hL : L[i]? = some k) : vf V k 3 = N (gch V L i) := by
  obtain ⟨c, hc, e⟩ := h k (ls_get hL).2
  unfold gch
  rw [hL]
  show _ = N (chn V k)
  unfold chn
  rw [e, N_cl (by omega)]
/-- the stations' channels with one move more, in the order of the queue -/
def suc (q : Qy) (V : Vw) : List Vw := (Ls V (qs q)).flatMap (fun k => (List.range 8).flatMap (fun c => if canM V q k c = true then [chV V k c] else []))
section QUEUE
variable {d : Nat} {I I' I'' : OId → Nat → Int32} {M R : OId → Nat → AV} {G : SG} {V : Vw} {L : List Nat} {q : Qy}
theorem NT.ns (h : NT I V L) : NS I V L := ⟨h.1, fun i k hi => ⟨(h.2 i k hi).1, (h.2 i k hi).2.1, (h.2 i k hi).2.2.2⟩⟩
theorem NS.nt (h : NS I V L) (e : ∀ i k, L[i]? = some k → I (28, 0, 0) i = vf V k 3) : NT I V L := ⟨h.1, fun i k hi => ⟨(h.2 i k hi).1, (h.2 i k hi).2.1, e i k hi, (h.2 i k hi).2.2⟩⟩
theorem k32 : kOf (32, 0, 0) = .inr (.int, 2451) := rfl
theorem pack_ok (hR : RF R) (hN : NT I V L) (hC : CB V L) (hL7 : L.length ≤ 7) : evm (d + 2) 144 [aR (8, 0, 0)] (I, M, R, G) = some (.inl (some (aI (N (pk V L)))), (I, M, R, G)) := by
  rw [m144]
  have hs : ∀ k, k < L.length → ev (evm (d + 1)) 144 4 [some (aR (8, 0, 0)), some (aI (N (pkv (gch V L) k))), some (aI (N k))] [] [] (I, M, R, G) = ev (evm (d + 1)) 144 4 [some (aR (8, 0, 0)), some (aI (N (pkv (gch V L) (k + 1)))), some (aI (N (k + 1)))] [] [] (I, M, R, G) := by
    intro i hi
    obtain ⟨k, hk⟩ : ∃ k, L[i]? = some k := ⟨L[i], List.getElem?_eq_getElem hi⟩
    have e28 : I (28, 0, 0) i = N (gch V L i) := (hN.2 i k hk).2.2.1.trans (gch_n hC hk)
    have ep : N (pkv (gch V L) i) * 8 + N (gch V L i) = N (pkv (gch V L) (i + 1)) := by
      show N (pkv (gch V L) i) * N 8 + N (gch V L i) = _
      rw [N_mul, N_add]
      rfl
    rw [s144_4]
    simp only [m144, s144_0, s144_1, s144_2, s144_3, s144_5, s144_6, s144_9, s144_12, s144_15, s144_16, s144_18, s144_19, s144_20, s144_23, s144_26, s144_27, s144_30, s144_31, s144_32, s144_35, s144_38, s144_39, hR.s.1, hR.n.2.2.1, hN.1, N_ge hi (show L.length < 2147483648 by omega), get_N (S := (I, M, R, G)) k28 (fun _ => rfl) (show i < 7 by omega) (by decide), e28, ep, if_false, if_true, ck_v, ck_x, Option.toList, List.cons_append, List.nil_append, kil_nil, N_1, o10, o00, exN_0, exN_1, exN_2, exN_3, exN_4, exN_5, Ex]
  have hf : ev (evm (d + 1)) 144 4 [some (aR (8, 0, 0)), some (aI (N (pkv (gch V L) L.length))), some (aI (N L.length))] [] [] (I, M, R, G) = some (.inl (some (aI (N (pk V L)))), (I, M, R, G)) := by
    rw [s144_4]
    simp only [m144, s144_0, s144_1, s144_2, s144_3, s144_5, s144_6, s144_9, s144_12, s144_15, s144_16, s144_18, s144_19, s144_20, s144_23, s144_26, s144_27, s144_30, s144_31, s144_32, s144_35, s144_38, s144_39, hR.s.1, hN.1, N_ge1 (Nat.le_refl L.length) (show L.length < 2147483648 by omega), if_false, if_true, ck_v, ck_x, Option.toList, List.cons_append, List.nil_append, kil_nil, N_1, o10, o00, exN_0, exN_1, exN_2, exN_3, exN_4, exN_5, Ex]
    rfl
  simp only [s144_0, s144_1, s144_2, s144_3, kil_nil]
  exact (iter (f := fun k => ev (evm (d + 1)) 144 4 [some (aR (8, 0, 0)), some (aI (N (pkv (gch V L) k))), some (aI (N k))] [] [] (I, M, R, G)) hs).trans hf
theorem upLoop {g : Nat → Nat} {p : Nat} (hR : RF R) (hg : ∀ i, g i < 8) (hL7 : L.length ≤ 7) : ∀ (k : Nat) (J : OId → Nat → Int32), k ≤ L.length → ∃ J' l2, ev (evm (d + 1)) 145 12 [some (aR (8, 0, 0)), some (aI (N p)), some (aI (N (pkv g k))), some (aI (N k - 1))] [] [] (J, M, R, G) = ev (evm (d + 1)) 145 12 [some (aR (8, 0, 0)), some (aI (N p)), some (aI l2), some (aI (N 0 - 1))] [] [] (J', M, R, G) ∧ (∀ o, o ≠ (28, 0, 0) → J' o = J o) ∧ (∀ i, i < k → J' (28, 0, 0) i = N (g i)) ∧ ∀ i, k ≤ i → J' (28, 0, 0) i = J (28, 0, 0) i
  | 0, J, _ => ⟨J, N (pkv g 0), rfl, fun _ _ => rfl, fun i hi => by omega, fun _ _ => rfl⟩
  | k + 1, J, hk => by
    have e0 : N (k + 1) - 1 = N k := sub_N (by omega) (by omega)
    have e2 : N k + -1 = N k - 1 := addm _
    have hp := pkv_7 hg (show k + 1 ≤ 7 by omega)
    have hgk := hg k
    have e8 : ¬ ((8 : Int32) = 0) := by decide
    have edv : N (pkv g (k + 1)) / 8 = N (pkv g k) := by
      show N (pkv g (k + 1)) / N 8 = _
      rw [← Int32.ofNat_div (by omega) (by decide)]
      refine congrArg N ?_
      show (pkv g k * 8 + g k) / 8 = _
      omega
    have emd : N (pkv g (k + 1)) - N (pkv g k) * 8 = N (g k) := by
      have : N (pkv g (k + 1)) = N (pkv g k) * 8 + N (g k) := by
        show _ = N (pkv g k) * N 8 + N (g k)
        rw [N_mul, N_add]
        rfl
      rw [this]
      grind
    obtain ⟨J', l2, e1, a1, a2, a3⟩ := upLoop (p := p) hR hg hL7 k (setI J (28, 0, 0) k (N (g k))) (by omega)
    refine ⟨J', l2, ?_, fun o ho => (a1 o ho).trans (setI_ne ho), fun i hi => ?_, fun i hi => ?_⟩
    · rw [s145_12]
      simp only [m145, s145_0, s145_1, s145_2, s145_3, s145_6, s145_9, s145_10, s145_11, s145_13, s145_16, s145_17, s145_20, s145_23, s145_24, s145_25, s145_28, s145_31, s145_32, s145_35, s145_36, s145_39, s145_42, s145_27 (y := 8) e8, s145_34 (y := 8) e8, e0, N_neg (show k < 2147483648 by omega), hR.s.1, hR.n.2.2.1, edv, emd, put_N (S := (J, M, R, G)) (o := (28, 0, 0)) k28 rfl (show k < 7 by omega) (by decide), if_false, if_true, ck_v, ck_x, Option.toList, List.cons_append, List.nil_append, kil_nil, N_1, o10, o00, exN_0, exN_1, exN_2, exN_3, exN_4, exN_5, Ex, e2]
      exact e1
    · by_cases hik : i = k
      · rw [hik, a3 k (Nat.le_refl _), setI_at, if_pos rfl]
      · exact a2 i (by omega)
    · rw [a3 i (by omega), setI_at, if_neg (by omega)]
theorem unpack_ok {g : Nat → Nat} (hR : RF R) (h6 : I (6, 0, 0) 0 = N L.length) (hg : ∀ i, g i < 8) (hL7 : L.length ≤ 7) : ∃ I', evm (d + 2) 145 [aR (8, 0, 0), aI (N (pkv g L.length))] (I, M, R, G) = some (.inl none, (I', M, R, G)) ∧ (∀ o, o ≠ (28, 0, 0) → I' o = I o) ∧ ∀ i, i < L.length → I' (28, 0, 0) i = N (g i) := by
  obtain ⟨J', l2, e1, a1, a2, a3⟩ := upLoop (d := d) (M := M) (G := G) (p := pkv g L.length) hR hg hL7 L.length I (Nat.le_refl _)
  refine ⟨J', ?_, a1, a2⟩
  have em : N 0 - 1 < 0 := by decide
  rw [m145]
  simp only [s145_0, s145_1, s145_2, s145_3, s145_6, s145_9, s145_10, s145_11, hR.s.1, h6, if_false, if_true, ck_v, ck_x, Option.toList, List.cons_append, List.nil_append, kil_nil, N_1, o10, o00, exN_0, exN_1, exN_2, exN_3, exN_4, exN_5, Ex]
  refine e1.trans ?_
  rw [s145_12]
  simp only [s145_13, if_pos em, s145_42]
end QUEUE
