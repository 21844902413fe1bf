/-! THE METHODS' MEANING: spans, the class's shut channels -/
theorem l50_0 {c : Nat → List AV → SS → Option Out} {l0 l1 : Option AV} {x : Int64} {St : List AV} {S : SS} : ev c 50 0 [l0, l1] [(0, aL x)] St S = ev c 50 1 [l0, l1] [(0, aL x)] (aL x :: St) S := s50_0 rfl
theorem l50_1 {c : Nat → List AV → SS → Option Out} {l0 l1 : Option AV} {x : Int64} {St : List AV} {S : SS} : ev c 50 1 [l0, l1] [(0, aL x)] St S = ev c 50 2 [l0, l1] [(0, aL x)] (aL x :: St) S := s50_1 rfl
theorem l50_10 {c : Nat → List AV → SS → Option Out} {l0 l1 : Option AV} {x : Int64} {St : List AV} {S : SS} : ev c 50 10 [l0, l1] [(0, aL x)] St S = ev c 50 11 [l0, l1] [(0, aL x)] (aL x :: St) S := s50_10 rfl
theorem l50_15 {c : Nat → List AV → SS → Option Out} {l0 l1 : Option AV} {x : Int64} {St : List AV} {S : SS} : ev c 50 15 [l0, l1] [(0, aL x)] St S = ev c 50 16 [l0, l1] [(0, aL x)] (aL x :: St) S := s50_15 rfl
theorem l50_24 {c : Nat → List AV → SS → Option Out} {l0 l1 : Option AV} {x : Int64} {St : List AV} {S : SS} : ev c 50 24 [l0, l1] [(0, aL x)] St S = ev c 50 25 [l0, l1] [(0, aL x)] (aL x :: St) S := s50_24 rfl
theorem l50_25 {c : Nat → List AV → SS → Option Out} {l0 l1 : Option AV} {x : Int64} {St : List AV} {S : SS} : ev c 50 25 [l0, l1] [(0, aL x)] St S = ev c 50 26 [l0, l1] [(0, aL x)] (aL x :: St) S := s50_25 rfl
theorem l50_34 {c : Nat → List AV → SS → Option Out} {l0 l1 : Option AV} {x : Int64} {St : List AV} {S : SS} : ev c 50 34 [l0, l1] [(0, aL x)] St S = ev c 50 35 [l0, l1] [(0, aL x)] (aL x :: St) S := s50_34 rfl
theorem l50_35 {c : Nat → List AV → SS → Option Out} {l0 l1 : Option AV} {x : Int64} {St : List AV} {S : SS} : ev c 50 35 [l0, l1] [(0, aL x)] St S = ev c 50 36 [l0, l1] [(0, aL x)] (aL x :: St) S := s50_35 rfl
theorem l50_41 {c : Nat → List AV → SS → Option Out} {l0 l1 : Option AV} {x : Int64} {St : List AV} {S : SS} : ev c 50 41 [l0, l1] [(0, aL x)] St S = ev c 50 42 [l0, l1] [(0, aL x)] (aL x :: St) S := s50_41 rfl
theorem l50_42 {c : Nat → List AV → SS → Option Out} {l0 l1 : Option AV} {x : Int64} {St : List AV} {S : SS} : ev c 50 42 [l0, l1] [(0, aL x)] St S = ev c 50 43 [l0, l1] [(0, aL x)] (aL x :: St) S := s50_42 rfl
theorem l50_48 {c : Nat → List AV → SS → Option Out} {l0 l1 : Option AV} {x : Int64} {St : List AV} {S : SS} : ev c 50 48 [l0, l1] [(0, aL x)] St S = ev c 50 49 [l0, l1] [(0, aL x)] (aL x :: St) S := s50_48 rfl
theorem l50_49 {c : Nat → List AV → SS → Option Out} {l0 l1 : Option AV} {x : Int64} {St : List AV} {S : SS} : ev c 50 49 [l0, l1] [(0, aL x)] St S = ev c 50 50 [l0, l1] [(0, aL x)] (aL x :: St) S := s50_49 rfl
theorem l50_55 {c : Nat → List AV → SS → Option Out} {l0 l1 : Option AV} {x : Int64} {St : List AV} {S : SS} : ev c 50 55 [l0, l1] [(0, aL x)] St S = ev c 50 56 [l0, l1] [(0, aL x)] (aL x :: St) S := s50_55 rfl
theorem kl2_0 {v : AV} : kil2 [(0, v)] 0 = [] := rfl
theorem l49_0 {c : Nat → List AV → SS → Option Out} {l0 l1 l2 l3 : Option AV} {x : Int64} {St : List AV} {S : SS} : ev c 49 0 [l0, l1, l2, l3] [(0, aL x)] St S = ev c 49 1 [l0, l1, l2, l3] [(0, aL x)] (aL x :: St) S := s49_0 rfl
theorem l49_5 {c : Nat → List AV → SS → Option Out} {l0 l1 l2 l3 : Option AV} {x : Int64} {St : List AV} {S : SS} : ev c 49 5 [l0, l1, l2, l3] [(0, aL x)] St S = ev c 49 6 [l0, l1, l2, l3] [(0, aL x)] (aL x :: St) S := s49_5 rfl
theorem l49_10 {c : Nat → List AV → SS → Option Out} {l0 l1 l2 l3 : Option AV} {x y : Int64} {St : List AV} {S : SS} : ev c 49 10 [l0, l1, l2, l3] [(2, aL y), (0, aL x)] St S = ev c 49 11 [l0, l1, l2, l3] [(2, aL y), (0, aL x)] (aL y :: St) S := s49_10 rfl
theorem kl2_20 {v : AV} : kil2 [(0, v)] 2 = [(0, v)] := rfl
def shr (x : Int64) (k : Int32) : Int64 := (x.toUInt64 >>> (k.toInt64.toUInt64 &&& Int64.toUInt64 63)).toInt64
def bc1 (x : Int64) : Int64 := x - (shr x 1 &&& 6148914691236517205)
def bc2 (a : Int64) : Int64 := (a &&& 3689348814741910323) + (shr a 2 &&& 3689348814741910323)
def bc3 (b : Int64) : Int64 := (b + shr b 4) &&& 1085102592571150095
def bc4 (c : Int64) (k : Int32) : Int64 := c + shr c k
def bcn (x : Int64) : Int32 := (bc4 (bc4 (bc4 (bc3 (bc2 (bc1 x))) 8) 16) 32).toInt32 &&& 127
theorem bc_tab : ∀ t, t < 41 → bcn (Lg (2 ^ t) - 1) = N t := by decide +kernel
section SHUT
variable {d : Nat} {I I' : OId → Nat → Int32} {M M' R : OId → Nat → AV} {G : SG} {V : Vw} {L : List Nat}
theorem bitCount_ok {x : Int64} {S : SS} : evm (d + 1) 50 [aL x] S = some (.inl (some (aI (bcn x))), S) := by
  rw [m50]
  simp only [s50_2, s50_3, s50_4, s50_7, s50_8, s50_9, s50_11, s50_14, s50_16, s50_17, s50_18, s50_21, s50_22, s50_23, s50_26, s50_27, s50_28, s50_29, s50_32, s50_33, s50_36, s50_38, s50_39, s50_40, s50_43, s50_45, s50_46, s50_47, s50_50, s50_52, s50_53, s50_54, s50_56, s50_57, s50_59, s50_60, l50_0, l50_1, l50_10, l50_15, l50_24, l50_25, l50_34, l50_35, l50_41, l50_42, l50_48, l50_49, l50_55, kl2_0]
  rfl
theorem lowestOpen_ok {m t : Nat} {S : SS} (ht : t < 41) (h1 : ∀ i, i < t → m.testBit i = true) (h2 : m.testBit t = false) : evm (d + 2) 49 [aL (Lg m)] S = some (.inl (some (aI (N t))), S) := by
  rw [m49]
  simp only [s49_1, s49_4, s49_6, s49_7, s49_8, s49_9, s49_11, s49_12, s49_13, s49_16, l49_0, l49_5, l49_10, kl2_20, low_open (show t < 62 by omega) h1 h2, bitCount_ok, bc_tab t ht, if_false, if_true, ck_v, ck_x, Option.toList, List.cons_append, List.nil_append, kil_nil, N_1, o10, o00, exN_0, exN_1, exN_2, exN_3, exN_4, exN_5, Ex]
def gsp (V : Vw) (L : List Nat) (i j : Nat) : Nat := (spv V (L.getD i 0) (L.getD j 0)).toNatClampNeg
theorem getD_of {i k : Nat} (h : L[i]? = some k) : L.getD i 0 = k := by
  rw [List.getD_eq_getElem?_getD, h]
  rfl
theorem getD_lt {i : Nat} (hi : i < L.length) : L[i]? = some (L.getD i 0) := by
  rw [List.getD_eq_getElem?_getD, List.getElem?_eq_getElem hi]
  rfl
/-- the separations of the net are small -/
theorem gsp_ok (hW : WV V) (hm : ∀ k, k ∈ L → k < vn V) {i j : Nat} (hi : i < L.length) (hj : j < L.length) : gsp V L i j < 6 ∧ spv V (L.getD i 0) (L.getD j 0) = N (gsp V L i j) ∧ gsp V L i j = gsp V L j i := by
  have h1 := hm _ (ls_get (getD_lt hi)).2
  have h2 := hm _ (ls_get (getD_lt hj)).2
  obtain ⟨w, hw, e⟩ := hW.sp h1 h2
  have e2 := spv_c hW h1 h2
  unfold gsp
  rw [← e2, e, N_cl (by omega)]
  exact ⟨hw, rfl, rfl⟩
theorem RF.p (h : RF R) : R (9, 0, 0) 0 = aR (6, 0, 0) ∧ R (9, 0, 0) 1 = aR (33, 0, 0) ∧ R (9, 0, 0) 2 = aR (34, 0, 0) := h.2.2.2.2.2.2.1
theorem k34 : kOf (34, 0, 0) = .inr (.long, 49) := rfl
theorem k33 : kOf (33, 0, 0) = .inr (.int, 7) := rfl
theorem kJ34 {i : Nat} {r : Option Out} (h : i < 49) : kJ (34, 0, 0) (N i) r = r := by
  unfold kJ
  rw [k34]
  exact if_pos (inB_N h (by decide))
theorem kN34 {f : Int32 → Option Out} : kN (34, 0, 0) f = f (N 49) := by
  unfold kN
  rw [k34]
theorem toL_L {x : Int64} : toL (aL x) = x := rfl
theorem shutTo_ok {e k : Nat} {x : Int64} (hR : RF R) (he : e < 7) (hk : k < 7) (h : M (34, 0, 0) (7 * e + k) = aL x) : evm (d + 2) 41 [aR (9, 0, 0), aI (N e), aI (N k)] (I, M, R, G) = some (.inl (some (aL x)), (I, M, R, G)) := by
  have q1 : (N 49 ≤ N (7 * e + k)) = False := N_ge (by omega) (by decide)
  simp only [m41, s41_0, s41_1, s41_2, s41_5, s41_6, s41_7, s41_10, s41_11, s41_12, s41_15, s41_16, s41_19, s41_20, s41_23, s41_24, s41_25, s41_28, s41_29, pair_N he hk, N_neg (show 7 * e + k < 2147483648 by omega), hR.p.2.2, kN34, q1, kJ34 (show 7 * e + k < 49 by omega), N_cl (show 7 * e + k < 2147483648 by omega), h, toL_L, if_false, if_true, ck_v, ck_x, Option.toList, List.cons_append, List.nil_append, kil_nil, N_1, o10, o00, exN_0, exN_1, exN_2, exN_3, exN_4, exN_5, Ex]
theorem l45_28 {c : Nat → List AV → SS → Option Out} {l0 l1 l2 l3 l4 l5 : Option AV} {x : Int64} {St : List AV} {S : SS} : ev c 45 28 [l0, l1, l2, l3, l4, l5] [(3, aL x)] St S = ev c 45 29 [l0, l1, l2, l3, l4, l5] [(3, aL x)] (aL x :: St) S := s45_28 rfl
theorem kl_35 {v : AV} : kil [(3, v)] 5 = [(3, v)] := rfl
theorem putShut_ok {e k : Nat} {x : Int64} (hR : RF R) (he : e < 7) (hk : k < 7) : evm (d + 2) 45 [aR (9, 0, 0), aI (N e), aI (N k), aL x] (I, M, R, G) = some (.inl none, (I, setV M (34, 0, 0) (7 * e + k) (aL x), R, G)) := by
  have q1 : (N 49 ≤ N (7 * e + k)) = False := N_ge (by omega) (by decide)
  simp only [m45, s45_0, s45_1, s45_2, s45_5, s45_7, s45_9, s45_12, s45_14, s45_15, s45_18, s45_19, s45_22, s45_23, s45_26, s45_29, s45_30, l45_28, kl_35, pair_N he hk, N_neg (show 7 * e + k < 2147483648 by omega), hR.p.2.2, kN34, q1, kJ34 (show 7 * e + k < 49 by omega), N_cl (show 7 * e + k < 2147483648 by omega), if_false, if_true, ck_v, ck_x, Option.toList, List.cons_append, List.nil_append, kil_nil, N_1, o10, o00, exN_0, exN_1, exN_2, exN_3, exN_4, exN_5, Ex]
/-- what has changed but in the shut channels -/
def FV (M M' : OId → Nat → AV) : Prop := ∀ o, o ≠ (34, 0, 0) → M' o = M o
theorem FV.rf : FV M M := fun _ _ => rfl
theorem FV.tr {M'' : OId → Nat → AV} (h : FV M M') (h' : FV M' M'') : FV M M'' := fun o ho => (h' o ho).trans (h o ho)
theorem l43_62 {c : Nat → List AV → SS → Option Out} {l0 l1 l2 l3 l4 l5 l6 l7 : Option AV} {x : Int64} {St : List AV} {S : SS} : ev c 43 62 [l0, l1, l2, l3, l4, l5, l6, l7] [(6, aL x)] St S = ev c 43 64 [l0, l1, l2, l3, l4, l5, l6, l7] [(6, aL x)] (aL x :: St) S := s43_62 rfl
theorem kl_65 {v : AV} : kil [(6, v)] 5 = [(6, v)] := rfl
theorem kl2_6 {v : AV} : kil2 [(6, v)] 6 = [] := rfl
/-- k with channel ch shuts channels to those that are not placed -/
theorem place_ok {k ch e P : Nat} {mm : Nat → Nat} (hR : RF R) (hW : WV V) (hN : NT I V L) (hL7 : L.length ≤ 7) (hm : ∀ k, k ∈ L → k < vn V) (hk : k < L.length) (hc : ch < 56) (hP : P < 128) (he : ∀ j, j < L.length → j ≠ k → P.testBit j = false → e + 1 < 7) (hrow : ∀ j, j < L.length → j ≠ k → P.testBit j = false → M (34, 0, 0) (7 * e + j) = aL (Lg (mm j))) : ∃ M', evm (d + 3) 43 [aR (9, 0, 0), aI (N k), aI (N ch), aI (N e), aI (N P)] (I, M, R, G) = some (.inl none, (I, M', R, G)) ∧ FV M M' ∧ (∀ x, x < 7 * (e + 1) → M' (34, 0, 0) x = M (34, 0, 0) x) ∧ ∀ j, j < L.length → j ≠ k → P.testBit j = false → M' (34, 0, 0) (7 * (e + 1) + j) = aL (Lg (mm j ||| smask ch (gsp V L k j))) := by
  have hl : ∀ (r j : Nat) (Q : OId → Nat → AV) (L2 : List (Nat × AV)), j + r = L.length → (L2 = [] ∨ ∃ v, L2 = [(6, v)]) → FV M Q → (∀ x, x < 7 * (e + 1) → Q (34, 0, 0) x = M (34, 0, 0) x) → (∀ i, i < j → i ≠ k → P.testBit i = false → Q (34, 0, 0) (7 * (e + 1) + i) = aL (Lg (mm i ||| smask ch (gsp V L k i)))) → ∃ M', ev (evm (d + 2)) 43 3 [some (aR (9, 0, 0)), some (aI (N k)), some (aI (N ch)), some (aI (N e)), some (aI (N P)), some (aI (N j)), none, none] L2 [] (I, Q, R, G) = some (.inl none, (I, M', R, G)) ∧ FV M M' ∧ (∀ x, x < 7 * (e + 1) → M' (34, 0, 0) x = M (34, 0, 0) x) ∧ ∀ i, i < L.length → i ≠ k → P.testBit i = false → M' (34, 0, 0) (7 * (e + 1) + i) = aL (Lg (mm i ||| smask ch (gsp V L k i))) := by
    intro r
    induction r with
    | zero =>
      intro j Q L2 hj h2 hF hx hi
      have ej : j = L.length := by omega
      subst ej
      refine ⟨Q, ?_, hF, hx, hi⟩
      rw [s43_3]
      simp only [m43, s43_0, s43_1, s43_5, s43_6, s43_9, s43_12, s43_15, s43_17, s43_18, s43_21, s43_23, s43_24, s43_26, s43_29, s43_32, s43_33, s43_34, s43_36, s43_39, s43_40, s43_41, s43_44, s43_45, s43_47, s43_50, s43_53, s43_54, s43_56, s43_57, s43_58, s43_59, s43_60, s43_64, s43_67, s43_70, s43_73, hR.p.1, hN.1, N_ge1 (Nat.le_refl L.length) (show L.length < 2147483648 by omega), if_false, if_true, ck_v, ck_x, Option.toList, List.cons_append, List.nil_append, kil_nil, N_1, o10, o00, exN_0, exN_1, exN_2, exN_3, exN_4, exN_5, Ex]
    | succ r ih =>
      intro j Q L2 hj h2 hF hx hi
      have hjl : j < L.length := by omega
      have ejk : (N j = N k) = (j = k) := N_inj (by omega) (by omega)
      have k25 : kil L2 5 = L2 := by
        rcases h2 with rfl | ⟨v, rfl⟩
        · rfl
        · rfl
      have k26' : kil2 L2 6 = [] := by
        rcases h2 with rfl | ⟨v, rfl⟩
        · rfl
        · rfl
      have eh := fun (S : SS) => has_ok (d := d + 1) (S := S) (m := P) (c := j) (by omega) (by omega)
      by_cases hjk : j = k
      · have ejk' : (N j = N k) = True := by rw [ejk]; exact eq_true hjk
        obtain ⟨M', e1, a1⟩ := ih (j + 1) Q L2 (by omega) h2 hF hx (fun i hij hik => hi i (by omega) hik)
        refine ⟨M', ?_, a1⟩
        rw [s43_3]
        simp only [m43, s43_0, s43_1, s43_5, s43_6, s43_9, s43_12, s43_15, s43_17, s43_18, s43_21, s43_23, s43_24, s43_26, s43_29, s43_32, s43_33, s43_34, s43_36, s43_39, s43_40, s43_41, s43_44, s43_45, s43_47, s43_50, s43_53, s43_54, s43_56, s43_57, s43_58, s43_59, s43_60, s43_64, s43_67, s43_70, s43_73, hR.p.1, hN.1, N_ge hjl (show L.length < 2147483648 by omega), ejk', k25, if_false, if_true, ck_v, ck_x, Option.toList, List.cons_append, List.nil_append, kil_nil, N_1, o10, o00, exN_0, exN_1, exN_2, exN_3, exN_4, exN_5, Ex]
        exact e1
      · have ejk' : (N j = N k) = False := by rw [ejk]; exact eq_false hjk
        cases hb : P.testBit j with
        | true =>
          obtain ⟨M', e1, a1⟩ := ih (j + 1) Q L2 (by omega) h2 hF hx (fun i hij hik hp => by
            have : i ≠ j := fun q => by rw [q, hb] at hp; cases hp
            exact hi i (by omega) hik hp)
          refine ⟨M', ?_, a1⟩
          rw [s43_3]
          simp only [m43, s43_0, s43_1, s43_5, s43_6, s43_9, s43_12, s43_15, s43_17, s43_18, s43_21, s43_23, s43_24, s43_26, s43_29, s43_32, s43_33, s43_34, s43_36, s43_39, s43_40, s43_41, s43_44, s43_45, s43_47, s43_50, s43_53, s43_54, s43_56, s43_57, s43_58, s43_59, s43_60, s43_64, s43_67, s43_70, s43_73, hR.p.1, hN.1, N_ge hjl (show L.length < 2147483648 by omega), ejk', N2L P (by omega), eh, hb, k25, if_false, if_true, ck_v, ck_x, Option.toList, List.cons_append, List.nil_append, kil_nil, N_1, o10, o00, exN_0, exN_1, exN_2, exN_3, exN_4, exN_5, Ex]
          exact e1
        | false =>
          have he7 := he j hjl hjk hb
          obtain ⟨s1, s2, s3⟩ := gsp_ok hW hm hk hjl
          have e29 : I (29, 0, 0) (7 * k + j) = N (gsp V L k j) := ((hN.2 k _ (getD_lt hk)).2.2.2 j _ (getD_lt hjl) hjk).trans s2
          have hq : Q (34, 0, 0) (7 * e + j) = aL (Lg (mm j)) := by rw [hx _ (by omega)]; exact hrow j hjl hjk hb
          obtain ⟨M', e1, a1⟩ := ih (j + 1) (setV Q (34, 0, 0) (7 * (e + 1) + j) (aL (Lg (mm j ||| smask ch (gsp V L k j))))) [(6, aL (Lg (mm j ||| smask ch (gsp V L k j))))] (by omega) (Or.inr ⟨_, rfl⟩) (fun o ho => by rw [setV_ne ho]; exact hF o ho) (fun x hx' => by rw [setV_at, if_neg (by omega)]; exact hx x hx') (fun i hij hik hp => by
            rw [setV_at]
            by_cases hij' : i = j
            · rw [if_pos (by omega), hij']
            · rw [if_neg (by omega)]
              exact hi i (by omega) hik hp)
          refine ⟨M', ?_, a1⟩
          rw [s43_3]
          simp only [m43, s43_0, s43_1, s43_5, s43_6, s43_9, s43_12, s43_15, s43_17, s43_18, s43_21, s43_23, s43_24, s43_26, s43_29, s43_32, s43_33, s43_34, s43_36, s43_39, s43_40, s43_41, s43_44, s43_45, s43_47, s43_50, s43_53, s43_54, s43_56, s43_57, s43_58, s43_59, s43_60, s43_64, s43_67, s43_70, s43_73, l43_62, kl_65, hR.p.1, hN.1, N_ge hjl (show L.length < 2147483648 by omega), ejk', N2L P (by omega), eh, hb, Bool.false_eq_true, shutTo_ok hR (show e < 7 by omega) (show j < 7 by omega) hq, apart_ok hR (show k < 7 by omega) (show j < 7 by omega), e29, shutBy_ok, shb_N _ hc _ s1, Lg_or, k26', putShut_ok hR he7 (show j < 7 by omega), if_false, if_true, ck_v, ck_x, Option.toList, List.cons_append, List.nil_append, kil_nil, N_1, o10, o00, exN_0, exN_1, exN_2, exN_3, exN_4, exN_5, Ex]
          exact e1
  obtain ⟨M', e1, a1⟩ := hl L.length 0 M [] (by omega) (Or.inl rfl) FV.rf (fun _ _ => rfl) (fun i hi => by omega)
  refine ⟨M', ?_, a1⟩
  rw [m43]
  simp only [s43_0, s43_1, kil_nil]
  exact e1
end SHUT
