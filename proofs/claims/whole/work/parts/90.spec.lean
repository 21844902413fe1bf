/-! THE METHODS' MEANING: spans, the class's search by numbers -/
def pmk (p : Nat → Nat) (e : Nat) : Nat := mor (fun d => 2 ^ p d) e
theorem pmk_bit {p : Nat → Nat} {e j : Nat} : ((pmk p e).testBit j = true) ↔ ∃ d, d < e ∧ p d = j := by
  unfold pmk
  rw [mor_bit]
  refine ⟨fun h => ?_, fun h => ?_⟩
  · obtain ⟨d, h1, h2⟩ := h
    rw [Nat.testBit_two_pow, decide_eq_true_eq] at h2
    exact ⟨d, h1, h2⟩
  · obtain ⟨d, h1, h2⟩ := h
    exact ⟨d, h1, by rw [Nat.testBit_two_pow, decide_eq_true_eq]; exact h2⟩
theorem pmk_lt {p : Nat → Nat} {e : Nat} (h : ∀ d, d < e → p d < 7) : pmk p e < 128 := mor_lt (b := 7) (fun d hd => Nat.pow_lt_pow_right (show 1 < 2 by decide) (h d hd))
theorem pmk_tab : ∀ a, a < 128 → ∀ k, k < 7 → (N a ||| (1 : Int32) <<< (N k &&& 31)) = N (a ||| 2 ^ k) := by decide +kernel
/-- what is shut to j by the first e that are placed -/
def rm (V : Vw) (L : List Nat) (p g : Nat → Nat) (e j : Nat) : Nat := mor (fun d => smask (g d) (gsp V L (p d) j)) e
theorem mor_congr {g g' : Nat → Nat} : ∀ {n : Nat}, (∀ i, i < n → g i = g' i) → mor g n = mor g' n
  | 0, _ => rfl
  | n + 1, h => by
    show mor g n ||| g n = mor g' n ||| g' n
    rw [mor_congr (n := n) (fun i hi => h i (by omega)), h n (by omega)]
theorem rm_congr {V : Vw} {L : List Nat} {p g p' g' : Nat → Nat} {j e : Nat} (h : ∀ d, d < e → p' d = p d ∧ g' d = g d) : rm V L p' g' e j = rm V L p g e j := mor_congr (fun d hd => by rw [(h d hd).1, (h d hd).2])
def RW (M : OId → Nat → AV) (V : Vw) (L : List Nat) (p g : Nat → Nat) (e : Nat) : Prop := ∀ j, j < L.length → (∀ d, d < e → p d ≠ j) → M (34, 0, 0) (7 * e + j) = aL (Lg (rm V L p g e j))
section ASSIGN
variable {d : Nat} {I I' : OId → Nat → Int32} {M M' R : OId → Nat → AV} {G : SG} {V : Vw} {L : List Nat}
theorem rm_bit {p g : Nat → Nat} {e k c : Nat} (hW : WV V) (hm : ∀ k, k ∈ L → k < vn V) (hk : k < L.length) (hp : ∀ d, d < e → p d < L.length) (hg : ∀ d, d < e → g d < 56) (hc : c < 62) : ((rm V L p g e k).testBit c = false) ↔ ∀ a, a < e → gsp V L (p a) k ≤ dsn (g a) c := by
  have key : ((rm V L p g e k).testBit c = true) ↔ ∃ a, a < e ∧ dsn (g a) c < gsp V L (p a) k := by
    unfold rm
    rw [mor_bit]
    refine ⟨fun h => ?_, fun h => ?_⟩
    · obtain ⟨a, h1, h2⟩ := h
      rw [smask_bit _ (hg a h1) _ (gsp_ok hW hm (hp a h1) hk).1 c hc, decide_eq_true_eq] at h2
      exact ⟨a, h1, h2⟩
    · obtain ⟨a, h1, h2⟩ := h
      refine ⟨a, h1, ?_⟩
      rw [smask_bit _ (hg a h1) _ (gsp_ok hW hm (hp a h1) hk).1 c hc, decide_eq_true_eq]
      exact h2
  refine ⟨fun h a ha => ?_, fun h => ?_⟩
  · rcases Nat.lt_or_ge (dsn (g a) c) (gsp V L (p a) k) with q | q
    · rw [key.mpr ⟨a, ha, q⟩] at h
      cases h
    · exact q
  · cases hb : (rm V L p g e k).testBit c with
    | false => rfl
    | true =>
      obtain ⟨a, h1, h2⟩ := key.mp hb
      have := h a h1
      omega
theorem rm_lt {p g : Nat → Nat} {e k : Nat} (hW : WV V) (hm : ∀ k, k ∈ L → k < vn V) (hk : k < L.length) (hp : ∀ d, d < e → p d < L.length) (hg : ∀ d, d < e → g d < 56) : rm V L p g e k < 2 ^ 62 := mor_lt (fun d hd => smask_lt _ (hg d hd) _ (gsp_ok hW hm (hp d hd) hk).1)
/-- one more has been placed -/
theorem place_row {p g : Nat → Nat} {k ch e : Nat} (hR : RF R) (hW : WV V) (hN : NT I V L) (hL7 : L.length ≤ 7) (hm : ∀ k, k ∈ L → k < vn V) (hp : ∀ d, d < e → p d < L.length) (hi : ∀ a b, a < e → b < e → p a = p b → a = b) (hk : k < L.length) (hkp : ∀ d, d < e → p d ≠ k) (hc : ch < 56) (hrow : RW M V L p g e) : ∃ M', evm (d + 3) 43 [aR (9, 0, 0), aI (N k), aI (N ch), aI (N e), aI (N (pmk p e))] (I, M, R, G) = some (.inl none, (I, M', R, G)) ∧ FV M M' ∧ (∀ x, x < 7 * (e + 1) → M' (34, 0, 0) x = M (34, 0, 0) x) ∧ RW M' V L (upn p e k) (upn g e ch) (e + 1) := by
  have hnp : ∀ j, (pmk p e).testBit j = false → ∀ d, d < e → p d ≠ j := fun j h d hd q => by
    rw [pmk_bit.mpr ⟨d, hd, q⟩] at h
    cases h
  obtain ⟨M', e1, f1, a1, a2⟩ := place_ok (d := d) (M := M) (G := G) (k := k) (ch := ch) (e := e) (P := pmk p e) (mm := rm V L p g e) hR hW hN hL7 hm hk hc (pmk_lt (fun d hd => by have := hp d hd; omega)) (fun j hj hjk hb => by
    have := pig L.length (e + 2) (fun x => if x = e then k else if x = e + 1 then j else p x) (fun x hx => by
      show (if x = e then k else if x = e + 1 then j else p x) < _
      split
      · exact hk
      · split
        · exact hj
        · exact hp x (by omega)) (fun a b ha hb' q => by
      have q' : (if a = e then k else if a = e + 1 then j else p a) = (if b = e then k else if b = e + 1 then j else p b) := q
      have hj9 := hnp j hb
      by_cases a1 : a = e
      · rw [if_pos a1] at q'
        by_cases b1 : b = e
        · omega
        · rw [if_neg b1] at q'
          by_cases b2 : b = e + 1
          · rw [if_pos b2] at q'
            exact absurd q'.symm hjk
          · rw [if_neg b2] at q'
            exact absurd q'.symm (hkp b (by omega))
      · rw [if_neg a1] at q'
        by_cases a2 : a = e + 1
        · rw [if_pos a2] at q'
          by_cases b1 : b = e
          · rw [if_pos b1] at q'
            exact absurd q' hjk
          · rw [if_neg b1] at q'
            by_cases b2 : b = e + 1
            · omega
            · rw [if_neg b2] at q'
              exact absurd q'.symm (hj9 b (by omega))
        · rw [if_neg a2] at q'
          by_cases b1 : b = e
          · rw [if_pos b1] at q'
            exact absurd q' (hkp a (by omega))
          · rw [if_neg b1] at q'
            by_cases b2 : b = e + 1
            · rw [if_pos b2] at q'
              exact absurd q' (hj9 a (by omega))
            · rw [if_neg b2] at q'
              exact hi a b (by omega) (by omega) q')
    omega) (fun j hj hjk hb => hrow j hj (hnp j hb))
  refine ⟨M', e1, f1, a1, fun j hj hjp => ?_⟩
  have hjk : j ≠ k := fun q => hjp e (by omega) (by rw [upn_e, q])
  have hjb : (pmk p e).testBit j = false := by
    cases hb : (pmk p e).testBit j with
    | false => rfl
    | true =>
      obtain ⟨d, h1, h2⟩ := pmk_bit.mp hb
      exact absurd h2 (by have := hjp d (by omega); rwa [upn_o (by omega)] at this)
  rw [a2 j hj hjk hjb]
  have e2 : rm V L (upn p e k) (upn g e ch) (e + 1) j = rm V L p g e j ||| smask ch (gsp V L k j) := by
    have e3 : rm V L (upn p e k) (upn g e ch) e j = rm V L p g e j := rm_congr (fun d hd => ⟨upn_o (by omega), upn_o (by omega)⟩)
    show rm V L (upn p e k) (upn g e ch) e j ||| smask (upn g e ch e) (gsp V L (upn p e k e) j) = _
    rw [e3, upn_e, upn_e]
  rw [e2]
theorem pmk_s {p : Nat → Nat} {e k : Nat} : pmk (upn p e k) (e + 1) = pmk p e ||| 2 ^ k := by
  have h : mor (fun d => 2 ^ upn p e k d) e = mor (fun d => 2 ^ p d) e := mor_congr (fun d hd => by rw [upn_o (by omega)])
  show mor (fun d => 2 ^ upn p e k d) e ||| 2 ^ upn p e k e = _
  rw [h, upn_e]
  rfl
theorem l40_41 {c : Nat → List AV → SS → Option Out} {l0 l1 l2 l3 l4 l5 l6 l7 : Option AV} {x : Int64} {St : List AV} {S : SS} : ev c 40 41 [l0, l1, l2, l3, l4, l5, l6, l7] [(5, aL x)] St S = ev c 40 43 [l0, l1, l2, l3, l4, l5, l6, l7] [(5, aL x)] (aL x :: St) S := s40_41 rfl
theorem kl_57 {v : AV} : kil [(5, v)] 7 = [(5, v)] := rfl
theorem upn_self {p : Nat → Nat} {e : Nat} : upn p e (p e) = p := by
  funext d
  unfold upn
  by_cases h : d = e
  · rw [if_pos h, h]
  · rw [if_neg h]
theorem assign_ok {p : Nat → Nat} {num : Nat} (hR : RF R) (hW : WV V) (hN : NT I V L) (hL7 : L.length ≤ 7) (hm : ∀ k, k ∈ L → k < vn V) (hp : ∀ d, d < L.length → p d < L.length ∧ I (33, 0, 0) d = N (p d)) (hi : ∀ a b, a < L.length → b < L.length → p a = p b → a = b) (hnum : num < 56) : ∀ (r e : Nat) (g : Nat → Nat) (M : OId → Nat → AV), e + r = L.length → (∀ d, d < e → g d < 56) → RW M V L p g e → ∃ b M', evm (d + r + 4) 40 [aR (9, 0, 0), aI (N e), aI (N (pmk p e)), aI (N num)] (I, M, R, G) = some (.inl (some (aI (if b = true then 1 else 0))), (I, M', R, G)) ∧ (b = true ↔ EX (fun _ => True) (fun a b => gsp V L (p a) (p b)) num L.length e g) ∧ FV M M' ∧ ∀ x, x < 7 * (e + 1) → M' (34, 0, 0) x = M (34, 0, 0) x
  | 0, e, g, M, he, hg, hrow => by
    have ee : e = L.length := by omega
    subst ee
    refine ⟨true, M, ?_, ⟨fun _ => EX_n, fun _ => rfl⟩, FV.rf, fun _ _ => rfl⟩
    have hlt : (N L.length < N L.length) = False := by
      rw [N_lt (by omega) (by omega)]
      exact eq_false (Nat.lt_irrefl _)
    show evm (d + 3 + 1) 40 _ _ = _
    rw [m40]
    simp only [s40_0, s40_1, s40_2, s40_5, s40_8, s40_11, s40_12, s40_13, s40_14, s40_17, s40_18, s40_21, s40_23, s40_24, s40_25, s40_27, s40_30, s40_32, s40_33, hR.p.1, hN.1, hlt, if_false, if_true, ck_v, ck_x, Option.toList, List.cons_append, List.nil_append, kil_nil, N_1, o10, o00, exN_0, exN_1, exN_2, exN_3, exN_4, exN_5, Ex, or_true]
  | r + 1, e, g, M, he, hg, hrow => by
    have hel : e < L.length := by omega
    obtain ⟨hpe, h33⟩ := hp e hel
    have hpd : ∀ d, d < e → p d < L.length := fun d hd => (hp d (by omega)).1
    have hkp : ∀ d, d < e → p d ≠ p e := fun d hd q => by
      have := hi d e (by omega) hel q
      omega
    have hq := hrow (p e) hpe hkp
    have hlt : (N e < N L.length) = True := N_lt1 hel (by omega)
    have hrl := rm_lt (e := e) hW hm hpe hpd hg
    have hpm := pmk_lt (p := p) (e := e) (fun d hd => by have := hpd d hd; omega)
    -- the loop over the channels
    have hC : ∀ (s c : Nat) (Q : OId → Nat → AV), c + s = num → FV M Q → (∀ x, x < 7 * (e + 1) → Q (34, 0, 0) x = M (34, 0, 0) x) → ∃ b M', ev (evm (d + r + 4)) 40 35 [some (aR (9, 0, 0)), some (aI (N e)), some (aI (N (pmk p e))), some (aI (N num)), some (aI (N (p e))), none, none, some (aI (N c))] [(5, aL (Lg (rm V L p g e (p e))))] [] (I, Q, R, G) = some (.inl (some (aI (if b = true then 1 else 0))), (I, M', R, G)) ∧ (b = true ↔ ∃ x, c ≤ x ∧ x < num ∧ (∀ a, a < e → gsp V L (p a) (p e) ≤ dsn (g a) x) ∧ EX (fun _ => True) (fun a b => gsp V L (p a) (p b)) num L.length (e + 1) (upn g e x)) ∧ FV M M' ∧ ∀ x, x < 7 * (e + 1) → M' (34, 0, 0) x = M (34, 0, 0) x := by
      intro s
      induction s with
      | zero =>
        intro c Q hc hF hx
        refine ⟨false, Q, ?_, ⟨fun h => (by cases h), fun h => ?_⟩, hF, hx⟩
        · rw [s40_35]
          simp only [s40_0, s40_1, s40_2, s40_5, s40_8, s40_11, s40_12, s40_13, s40_14, s40_17, s40_18, s40_21, s40_23, s40_24, s40_25, s40_27, s40_30, s40_32, s40_33, s40_37, s40_38, s40_43, s40_45, s40_48, s40_51, s40_52, s40_54, s40_56, s40_57, s40_58, s40_61, s40_62, s40_63, s40_64, s40_65, s40_66, s40_67, s40_69, s40_70, s40_71, s40_72, s40_75, s40_78, s40_79, s40_80, s40_83, s40_86, s40_87, N_ge1 (show num ≤ c by omega) (show c < 2147483648 by omega), if_false, if_true, ck_v, ck_x, Option.toList, List.cons_append, List.nil_append, kil_nil, N_1, o10, o00, exN_0, exN_1, exN_2, exN_3, exN_4, exN_5, Ex, true_or, Bool.false_eq_true]
        · obtain ⟨x, h1, h2, -⟩ := h
          omega
      | succ s ih =>
        intro c Q hc hF hx
        have hcn : c < num := by omega
        have hge : (N num ≤ N c) = False := N_ge hcn (by omega)
        have eh := fun (S : SS) => has_ok (d := d + r + 3) (S := S) (m := rm V L p g e (p e)) (c := c) (by omega) (by omega)
        have hbit := rm_bit (c := c) hW hm hpe hpd hg (by omega)
        cases hb : (rm V L p g e (p e)).testBit c with
        | true =>
          obtain ⟨b, M', e1, a1, a2, a3⟩ := ih (c + 1) Q (by omega) hF hx
          refine ⟨b, M', ?_, ⟨fun h => ?_, fun h => ?_⟩, a2, a3⟩
          · rw [s40_35]
            simp only [s40_0, s40_1, s40_2, s40_5, s40_8, s40_11, s40_12, s40_13, s40_14, s40_17, s40_18, s40_21, s40_23, s40_24, s40_25, s40_27, s40_30, s40_32, s40_33, s40_37, s40_38, s40_43, s40_45, s40_48, s40_51, s40_52, s40_54, s40_56, s40_57, s40_58, s40_61, s40_62, s40_63, s40_64, s40_65, s40_66, s40_67, s40_69, s40_70, s40_71, s40_72, s40_75, s40_78, s40_79, s40_80, s40_83, s40_86, s40_87, l40_41, kl_57, hge, eh, hb, if_false, if_true, ck_v, ck_x, Option.toList, List.cons_append, List.nil_append, kil_nil, N_1, o10, o00, exN_0, exN_1, exN_2, exN_3, exN_4, exN_5, Ex]
            exact e1
          · obtain ⟨x, h1, h2⟩ := a1.mp h
            exact ⟨x, by omega, h2⟩
          · obtain ⟨x, h1, h2, h3, h4⟩ := h
            refine a1.mpr ⟨x, ?_, h2, h3, h4⟩
            have : x ≠ c := fun q => by
              rw [q] at h3
              rw [hbit.mpr h3] at hb
              cases hb
            omega
        | false =>
          have hok := hbit.mp hb
          have hrowQ : RW Q V L p g e := fun j hj hjp => by rw [hx _ (by omega)]; exact hrow j hj hjp
          obtain ⟨M2, e2, f2, x2, w2⟩ := place_row (d := d + r + 1) (M := Q) (G := G) (p := p) (g := g) (k := p e) (ch := c) (e := e) hR hW hN hL7 hm hpd (fun a b ha hb' => hi a b (by omega) (by omega)) hpe hkp (by omega) hrowQ
          rw [upn_self] at w2
          obtain ⟨b2, M3, e3, a3, f3, x3⟩ := assign_ok hR hW hN hL7 hm hp hi hnum r (e + 1) (upn g e c) M2 (by omega) (fun d hd => by
            by_cases hde : d = e
            · rw [hde, upn_e]; omega
            · rw [upn_o hde]; exact hg d (by omega)) w2
          have hps : pmk p (e + 1) = pmk p e ||| 2 ^ p e := by
            have := pmk_s (p := p) (e := e) (k := p e)
            rwa [upn_self] at this
          rw [hps] at e3
          have hx3 : ∀ x, x < 7 * (e + 1) → M3 (34, 0, 0) x = M (34, 0, 0) x := fun x hx' => by rw [x3 x (by omega), x2 x hx', hx x hx']
          cases hb2 : b2 with
          | true =>
            rw [hb2] at e3
            rw [if_pos rfl] at e3
            refine ⟨true, M3, ?_, ⟨fun _ => ⟨c, Nat.le_refl _, hcn, hok, a3.mp hb2⟩, fun _ => rfl⟩, (hF.tr f2).tr f3, hx3⟩
            rw [s40_35]
            simp only [s40_0, s40_1, s40_2, s40_5, s40_8, s40_11, s40_12, s40_13, s40_14, s40_17, s40_18, s40_21, s40_23, s40_24, s40_25, s40_27, s40_30, s40_32, s40_33, s40_37, s40_38, s40_43, s40_45, s40_48, s40_51, s40_52, s40_54, s40_56, s40_57, s40_58, s40_61, s40_62, s40_63, s40_64, s40_65, s40_66, s40_67, s40_69, s40_70, s40_71, s40_72, s40_75, s40_78, s40_79, s40_80, s40_83, s40_86, s40_87, l40_41, kl_57, hge, eh, hb, Bool.false_eq_true, e2, pmk_tab _ hpm _ (show p e < 7 by omega), N_1, e3, if_false, if_true, ck_v, ck_x, Option.toList, List.cons_append, List.nil_append, kil_nil, N_1, o10, o00, exN_0, exN_1, exN_2, exN_3, exN_4, exN_5, Ex, or_true]
          | false =>
            rw [hb2] at e3
            rw [if_neg (by simp)] at e3
            obtain ⟨b, M', e4, a4, f4, x4⟩ := ih (c + 1) M3 (by omega) ((hF.tr f2).tr f3) hx3
            refine ⟨b, M', ?_, ⟨fun h => ?_, fun h => ?_⟩, f4, x4⟩
            · rw [s40_35]
              simp only [s40_0, s40_1, s40_2, s40_5, s40_8, s40_11, s40_12, s40_13, s40_14, s40_17, s40_18, s40_21, s40_23, s40_24, s40_25, s40_27, s40_30, s40_32, s40_33, s40_37, s40_38, s40_43, s40_45, s40_48, s40_51, s40_52, s40_54, s40_56, s40_57, s40_58, s40_61, s40_62, s40_63, s40_64, s40_65, s40_66, s40_67, s40_69, s40_70, s40_71, s40_72, s40_75, s40_78, s40_79, s40_80, s40_83, s40_86, s40_87, l40_41, kl_57, hge, eh, hb, Bool.false_eq_true, e2, pmk_tab _ hpm _ (show p e < 7 by omega), N_1, e3, if_false, if_true, ck_v, ck_x, Option.toList, List.cons_append, List.nil_append, kil_nil, N_1, o10, o00, exN_0, exN_1, exN_2, exN_3, exN_4, exN_5, Ex]
              exact e4
            · obtain ⟨x, h1, h2⟩ := a4.mp h
              exact ⟨x, by omega, h2⟩
            · obtain ⟨x, h1, h2, h3, h4⟩ := h
              refine a4.mpr ⟨x, ?_, h2, h3, h4⟩
              have : x ≠ c := fun q => by
                rw [q] at h4
                rw [a3.mpr h4] at hb2
                cases hb2
              omega
    obtain ⟨b, M', e1, a1, f1, x1⟩ := hC num 0 M (by omega) FV.rf (fun _ _ => rfl)
    refine ⟨b, M', ?_, ?_, f1, x1⟩
    · show evm (d + r + 4 + 1) 40 _ _ = _
      rw [m40]
      have k25 : kil2 ([] : List (Nat × AV)) 5 = [] := rfl
      simp only [s40_0, s40_1, s40_2, s40_5, s40_8, s40_11, s40_12, s40_13, s40_14, s40_17, s40_18, s40_21, s40_23, s40_24, s40_25, s40_27, s40_30, s40_32, s40_33, hR.p.1, hR.p.2.1, hN.1, hlt, get_N (S := (I, M, R, G)) k33 (fun _ => rfl) (show e < 7 by omega) (by decide), h33, shutTo_ok hR (show e < 7 by omega) (show p e < 7 by omega) hq, k25, kl_57, if_false, if_true, ck_v, ck_x, Option.toList, List.cons_append, List.nil_append, kil_nil, N_1, o10, o00, exN_0, exN_1, exN_2, exN_3, exN_4, exN_5, Ex]
      exact e1
    · rw [a1, EX_step trivial hel]
      refine ⟨fun h => ?_, fun h => ?_⟩
      · obtain ⟨x, -, h2, h3, h4⟩ := h
        exact ⟨x, h2, fun a ha _ => h3 a ha, h4⟩
      · obtain ⟨x, h2, h3, h4⟩ := h
        exact ⟨x, Nat.zero_le _, h2, fun a ha => h3 a ha trivial, h4⟩
end ASSIGN
