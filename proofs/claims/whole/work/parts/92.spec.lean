/-! THE METHODS' MEANING: spans by orders -/
/-- all n have channels below m, none too near -/
def VC (sp : Nat → Nat → Nat) (n : Nat) (c : Nat → Nat) (m : Nat) : Prop := (∀ i, i < n → c i < m) ∧ ∀ i j, i < n → j < n → i ≠ j → sp i j ≤ dsn (c i) (c j)
/-- the first e of an order p have channels g; c is no lower there, and what is left comes behind in c -/
def Bf (n e : Nat) (p g c : Nat → Nat) : Prop := (∀ d, d < e → g d ≤ c (p d)) ∧ ∀ d, d < e → ∀ j, j < n → (∀ d', d' < e → p d' ≠ j) → c (p d) ≤ c j
theorem min_ex {n e : Nat} {p c : Nat → Nat} : ∀ {k : Nat}, (∃ x, x < k ∧ ∀ d, d < e → p d ≠ x) → ∃ x, x < k ∧ (∀ d, d < e → p d ≠ x) ∧ ∀ j, j < k → (∀ d, d < e → p d ≠ j) → c x ≤ c j
  | 0, h => by
    obtain ⟨x, h1, -⟩ := h
    omega
  | k + 1, h => by
    by_cases hx : ∃ x, x < k ∧ ∀ d, d < e → p d ≠ x
    · obtain ⟨x, h1, h2, h3⟩ := min_ex (n := n) hx
      by_cases hk : (∀ d, d < e → p d ≠ k) ∧ c k < c x
      · refine ⟨k, by omega, hk.1, fun j hj hjp => ?_⟩
        by_cases hjk : j = k
        · rw [hjk]; exact Nat.le_refl _
        · exact Nat.le_trans (Nat.le_of_lt hk.2) (h3 j (by omega) hjp)
      · refine ⟨x, by omega, h2, fun j hj hjp => ?_⟩
        by_cases hjk : j = k
        · subst hjk
          rcases Nat.lt_or_ge (c j) (c x) with q | q
          · exact absurd ⟨hjp, q⟩ hk
          · exact q
        · exact h3 j (by omega) hjp
    · obtain ⟨x, h1, h2⟩ := h
      have hxk : x = k := by
        rcases Nat.lt_or_ge x k with q | q
        · exact absurd ⟨x, q, h2⟩ hx
        · omega
      subst hxk
      refine ⟨x, by omega, h2, fun j hj hjp => ?_⟩
      by_cases hjk : j = x
      · rw [hjk]; exact Nat.le_refl _
      · exact absurd ⟨j, by omega, hjp⟩ hx
section ORDERS
variable {d : Nat} {I I' : OId → Nat → Int32} {M M' R : OId → Nat → AV} {G : SG} {V : Vw} {L : List Nat}
theorem byOrd (hR : RF R) (hW : WV V) (hN : NT I V L) (hL7 : L.length ≤ 7) (hm : ∀ k, k ∈ L → k < vn V) : ∀ (r e : Nat) (p g : Nat → Nat) (num : Nat) (M : OId → Nat → AV), e + r = L.length → (∀ d, d < e → p d < L.length) → (∀ a b, a < e → b < e → p a = p b → a = b) → (∀ d, d < e → g d ≤ 5 * d ∧ g d < num) → num ≤ 31 → (∀ a b, a < b → b < e → gsp V L (p a) (p b) ≤ dsn (g a) (g b)) → RW M V L p g e → ∃ res M', evm (d + r + 4) 48 [aR (9, 0, 0), aI (N e), aI (N (pmk p e)), aI (N num)] (I, M, R, G) = some (.inl (some (aI (N res))), (I, M', R, G)) ∧ res ≤ 56 ∧ (res < 56 → FE (gsp V L) res L.length) ∧ (∀ c m, VC (gsp V L) L.length c m → Bf L.length e p g c → num ≤ m → res ≤ m) ∧ FV M M' ∧ ∀ x, x < 7 * (e + 1) → M' (34, 0, 0) x = M (34, 0, 0) x
  | 0, e, p, g, num, M, he, hp, hi, hg, hnum, hv, hrow => by
    have ee : e = L.length := by omega
    subst ee
    have hlt : (N L.length < N L.length) = False := by
      rw [N_lt (by omega) (by omega)]
      exact eq_false (Nat.lt_irrefl _)
    refine ⟨num, M, ?_, by omega, fun _ => ⟨fun j => g (pos p L.length j), fun j hj => ?_, fun i j hin hjn hij => ?_⟩, fun c m _ _ h => h, FV.rf, fun _ _ => rfl⟩
    · show evm (d + 3 + 1) 48 _ _ = _
      rw [m48]
      simp only [s48_0, s48_1, s48_2, s48_5, s48_8, s48_11, s48_12, s48_13, s48_15, s48_17, s48_18, hR.p.1, hN.1, hlt, if_false, if_true, ck_v, ck_x, Option.toList, List.cons_append, List.nil_append, kil_nil, N_1, o10, o00, exN_0, exN_1, exN_2, exN_3, exN_4, exN_5, Ex]
    · obtain ⟨x, hx, ex⟩ := sur hp hi hj
      show g (pos p L.length j) < num
      rw [← ex, pos_ok hi hx]
      exact (hg x hx).2
    · obtain ⟨x, hx, ex⟩ := sur hp hi hin
      obtain ⟨y, hy, ey⟩ := sur hp hi hjn
      show gsp V L i j ≤ dsn (g (pos p L.length i)) (g (pos p L.length j))
      rw [← ex, ← ey, pos_ok hi hx, pos_ok hi hy]
      rcases Nat.lt_trichotomy x y with q | q | q
      · exact hv x y q hy
      · exact absurd (by rw [← ex, ← ey, q]) hij
      · rw [(gsp_ok hW hm (hp x hx) (hp y hy)).2.2, dsn_c]
        exact hv y x q hx
  | r + 1, e, p, g, num, M, he, hp, hi, hg, hnum, hv, hrow => by
    have hel : e < L.length := by omega
    have hlt : (N e < N L.length) = True := N_lt1 hel (by omega)
    have hpm := pmk_lt (p := p) (e := e) (fun d hd => by have := hp d hd; omega)
    have hg56 : ∀ d, d < e → g d < 56 := fun d hd => by have := (hg d hd).1; omega
    have hC : ∀ (s k least : Nat) (Q : OId → Nat → AV) (l6 l7 : Option AV), k + s = L.length → least ≤ 56 → (least < 56 → FE (gsp V L) least L.length) → (∀ c m, VC (gsp V L) L.length c m → Bf L.length e p g c → num ≤ m → ∀ x, x < k → (∀ d, d < e → p d ≠ x) → (∀ j, j < L.length → (∀ d, d < e → p d ≠ j) → c x ≤ c j) → least ≤ m) → FV M Q → (∀ x, x < 7 * (e + 1) → Q (34, 0, 0) x = M (34, 0, 0) x) → ∃ res M', ev (evm (d + r + 4)) 48 20 [some (aR (9, 0, 0)), some (aI (N e)), some (aI (N (pmk p e))), some (aI (N num)), some (aI (N least)), some (aI (N k)), l6, l7] [] [] (I, Q, R, G) = some (.inl (some (aI (N res))), (I, M', R, G)) ∧ res ≤ 56 ∧ (res < 56 → FE (gsp V L) res L.length) ∧ (∀ c m, VC (gsp V L) L.length c m → Bf L.length e p g c → num ≤ m → ∀ x, x < L.length → (∀ d, d < e → p d ≠ x) → (∀ j, j < L.length → (∀ d, d < e → p d ≠ j) → c x ≤ c j) → res ≤ m) ∧ FV M M' ∧ ∀ x, x < 7 * (e + 1) → M' (34, 0, 0) x = M (34, 0, 0) x := by
      intro s
      induction s with
      | zero =>
        intro k least Q l6 l7 hk h56 hfe hall hF hx
        have ek : k = L.length := by omega
        subst ek
        refine ⟨least, Q, ?_, h56, hfe, hall, hF, hx⟩
        rw [s48_20]
        simp only [s48_0, s48_1, s48_2, s48_5, s48_8, s48_11, s48_12, s48_13, s48_15, s48_17, s48_18, s48_22, s48_23, s48_26, s48_29, s48_32, s48_33, s48_34, s48_36, s48_39, s48_42, s48_43, s48_44, s48_46, s48_49, s48_52, s48_54, s48_55, s48_57, s48_59, s48_60, s48_61, s48_64, s48_65, s48_67, s48_68, s48_69, s48_72, s48_74, s48_76, s48_77, s48_78, s48_79, s48_80, s48_81, s48_82, s48_84, s48_85, s48_86, s48_88, s48_91, s48_94, s48_96, s48_99, s48_102, s48_104, hR.p.1, hN.1, N_ge1 (Nat.le_refl L.length) (show L.length < 2147483648 by omega), if_false, if_true, ck_v, ck_x, Option.toList, List.cons_append, List.nil_append, kil_nil, N_1, o10, o00, exN_0, exN_1, exN_2, exN_3, exN_4, exN_5, Ex]
      | succ s ih =>
        intro k least Q l6 l7 hk h56 hfe hall hF hx
        have hkl : k < L.length := by omega
        have hge : (N L.length ≤ N k) = False := N_ge hkl (by omega)
        have eh := fun (S : SS) => has_ok (d := d + r + 3) (S := S) (m := pmk p e) (c := k) (by omega) (by omega)
        cases hb : (pmk p e).testBit k with
        | true =>
          obtain ⟨dk, hdk1, hdk2⟩ := pmk_bit.mp hb
          obtain ⟨res, M', e1, a1⟩ := ih (k + 1) least Q l6 l7 (by omega) h56 hfe (fun c m hc hbf hnm x hx1 hxp hxm => by
            have : x ≠ k := fun q => hxp dk hdk1 (by rw [q]; exact hdk2)
            exact hall c m hc hbf hnm x (by omega) hxp hxm) hF hx
          refine ⟨res, M', ?_, a1⟩
          rw [s48_20]
          simp only [s48_0, s48_1, s48_2, s48_5, s48_8, s48_11, s48_12, s48_13, s48_15, s48_17, s48_18, s48_22, s48_23, s48_26, s48_29, s48_32, s48_33, s48_34, s48_36, s48_39, s48_42, s48_43, s48_44, s48_46, s48_49, s48_52, s48_54, s48_55, s48_57, s48_59, s48_60, s48_61, s48_64, s48_65, s48_67, s48_68, s48_69, s48_72, s48_74, s48_76, s48_77, s48_78, s48_79, s48_80, s48_81, s48_82, s48_84, s48_85, s48_86, s48_88, s48_91, s48_94, s48_96, s48_99, s48_102, s48_104, hR.p.1, hN.1, hge, N2L _ (show pmk p e < 256 by omega), eh, hb, if_false, if_true, ck_v, ck_x, Option.toList, List.cons_append, List.nil_append, kil_nil, N_1, o10, o00, exN_0, exN_1, exN_2, exN_3, exN_4, exN_5, Ex]
          exact e1
        | false =>
          have hkp : ∀ d, d < e → p d ≠ k := fun d hd q => by
            rw [pmk_bit.mpr ⟨d, hd, q⟩] at hb
            cases hb
          have hbit : ∀ c, c < 62 → ((rm V L p g e k).testBit c = false ↔ ∀ a, a < e → gsp V L (p a) k ≤ dsn (g a) c) := fun c hc => rm_bit hW hm hkl hp hg56 hc
          -- the lowest open channel
          have h5e : (rm V L p g e k).testBit (5 * e) = false := (hbit _ (by omega)).mpr (fun a ha => by
            have h1 := (gsp_ok hW hm (hp a ha) hkl).1
            have h2 := (hg a ha).1
            unfold dsn
            split <;> omega)
          obtain ⟨t, ht⟩ : ∃ t, t = fs (fun c => !(rm V L p g e k).testBit c) (5 * e + 1) := ⟨_, rfl⟩
          have hfl : fs (fun c => !(rm V L p g e k).testBit c) (5 * e + 1) < 5 * e + 1 := fs_ex.mpr ⟨5 * e, by omega, by rw [h5e]; rfl⟩
          have ht1 : t < 5 * e + 1 := by rw [ht]; exact hfl
          have ht2 : (rm V L p g e k).testBit t = false := by
            have := fs_yes hfl
            rw [← ht] at this
            simpa using this
          have ht3 : ∀ i, i < t → (rm V L p g e k).testBit i = true := fun i hi' => by
            have := fs_no (p := fun c => !(rm V L p g e k).testBit c) (n := 5 * e + 1) (k := i) (by rw [← ht]; exact hi')
            simpa using this
          have hrowQ : RW Q V L p g e := fun j hj hjp => by rw [hx _ (by omega)]; exact hrow j hj hjp
          have hlo := fun (S : SS) => lowestOpen_ok (d := d + r + 2) (S := S) (show t < 41 by omega) ht3 ht2
          obtain ⟨M2, e2, f2, x2, w2⟩ := place_row (d := d + r + 1) (M := Q) (G := G) (p := p) (g := g) (k := k) (ch := t) (e := e) hR hW hN hL7 hm hp hi hkl hkp (by omega) hrowQ
          obtain ⟨num', hnum'⟩ : ∃ num', num' = if num < t + 1 then t + 1 else num := ⟨_, rfl⟩
          have hn1 : num' ≤ 31 := by rw [hnum']; split <;> omega
          have hn2 : num ≤ num' ∧ t < num' := by rw [hnum']; split <;> omega
          have hmax : (if N num < N (t + 1) then N (t + 1) else N num) = N num' := by
            rw [hnum']
            by_cases hq : num < t + 1
            · rw [if_pos (by rw [N_lt (by omega) (by omega)]; exact hq), if_pos hq]
            · rw [if_neg (by rw [N_lt (by omega) (by omega)]; exact hq), if_neg hq]
          obtain ⟨res1, M3, e3, r1, r2, r3, f3, x3⟩ := byOrd hR hW hN hL7 hm r (e + 1) (upn p e k) (upn g e t) num' M2 (by omega) (fun d hd => by
            by_cases hde : d = e
            · rw [hde, upn_e]; exact hkl
            · rw [upn_o hde]; exact hp d (by omega)) (fun a b ha hb' q => by
            by_cases ea : a = e
            · by_cases eb : b = e
              · omega
              · rw [ea, upn_e, upn_o eb] at q
                exact absurd q.symm (hkp b (by omega))
            · by_cases eb : b = e
              · rw [eb, upn_e, upn_o ea] at q
                exact absurd q (hkp a (by omega))
              · rw [upn_o ea, upn_o eb] at q
                exact hi a b (by omega) (by omega) q) (fun d hd => by
            by_cases hde : d = e
            · rw [hde, upn_e]; omega
            · rw [upn_o hde]
              have := hg d (by omega)
              omega) hn1 (fun a b hab hbe => by
            by_cases eb : b = e
            · rw [eb, upn_e, upn_e, upn_o (by omega), upn_o (by omega)]
              exact (hbit t (by omega)).mp ht2 a (by omega)
            · rw [upn_o (by omega), upn_o (by omega), upn_o (by omega), upn_o (by omega)]
              exact hv a b hab (by omega)) w2
          rw [pmk_s] at e3
          obtain ⟨least', hleast'⟩ : ∃ least', least' = if res1 < least then res1 else least := ⟨_, rfl⟩
          have hmin : (if N res1 < N least then N res1 else N least) = N least' := by
            rw [hleast']
            by_cases hq : res1 < least
            · rw [if_pos (by rw [N_lt (by omega) (by omega)]; exact hq), if_pos hq]
            · rw [if_neg (by rw [N_lt (by omega) (by omega)]; exact hq), if_neg hq]
          obtain ⟨res, M', e4, a1⟩ := ih (k + 1) least' M3 (some (aI (N t))) (some (aI (N num'))) (by omega) (by rw [hleast']; split <;> omega) (fun h => by
            rw [hleast'] at h ⊢
            split at h
            · rename_i hq
              rw [if_pos hq]
              exact r2 h
            · rename_i hq
              rw [if_neg hq]
              exact hfe h) (fun c m hc hbf hnm x hx1 hxp hxm => by
            have hle : least' ≤ least ∧ least' ≤ res1 := by rw [hleast']; split <;> omega
            by_cases hxk : x = k
            · subst hxk
              have htc : t ≤ c x := by
                rcases Nat.lt_or_ge (c x) t with q | q
                · have h1 := ht3 (c x) q
                  have h2 := (hbit (c x) (by omega)).mpr (fun a ha => by
                    have h3 := hc.2 (p a) x (hp a ha) hkl (hxp a ha)
                    have h4 := hbf.1 a ha
                    have h5 := hbf.2 a ha x hkl hxp
                    unfold dsn at h3 ⊢
                    split at h3 <;> split <;> omega)
                  rw [h1] at h2
                  cases h2
                · exact q
              have := r3 c m hc ⟨fun d hd => by
                by_cases hde : d = e
                · rw [hde, upn_e, upn_e]; exact htc
                · rw [upn_o hde, upn_o hde]; exact hbf.1 d (by omega), fun d hd j hj hjp => by
                have hjo : ∀ d', d' < e → p d' ≠ j := fun d' hd' => by
                  have := hjp d' (by omega)
                  rwa [upn_o (by omega)] at this
                by_cases hde : d = e
                · rw [hde, upn_e]
                  exact hxm j hj hjo
                · rw [upn_o hde]
                  exact hbf.2 d (by omega) j hj hjo⟩ (by
                have := hc.1 x hkl
                rw [hnum']; split <;> omega)
              omega
            · have := hall c m hc hbf hnm x (by omega) hxp hxm
              omega) ((hF.tr f2).tr f3) (fun x hx' => by rw [x3 x (by omega), x2 x hx', hx x hx'])
          refine ⟨res, M', ?_, a1⟩
          rw [s48_20]
          simp only [s48_0, s48_1, s48_2, s48_5, s48_8, s48_11, s48_12, s48_13, s48_15, s48_17, s48_18, s48_22, s48_23, s48_26, s48_29, s48_32, s48_33, s48_34, s48_36, s48_39, s48_42, s48_43, s48_44, s48_46, s48_49, s48_52, s48_54, s48_55, s48_57, s48_59, s48_60, s48_61, s48_64, s48_65, s48_67, s48_68, s48_69, s48_72, s48_74, s48_76, s48_77, s48_78, s48_79, s48_80, s48_81, s48_82, s48_84, s48_85, s48_86, s48_88, s48_91, s48_94, s48_96, s48_99, s48_102, s48_104, hR.p.1, hN.1, hge, N2L _ (show pmk p e < 256 by omega), eh, hb, Bool.false_eq_true, shutTo_ok hR (show e < 7 by omega) (show k < 7 by omega) (hrowQ k hkl hkp), hlo, e2, N_1, hmax, pmk_tab _ hpm _ (show k < 7 by omega), e3, hmin, if_false, if_true, ck_v, ck_x, Option.toList, List.cons_append, List.nil_append, kil_nil, N_1, o10, o00, exN_0, exN_1, exN_2, exN_3, exN_4, exN_5, Ex]
          exact e4
    obtain ⟨res, M', e1, r1, r2, r3, f1, x1⟩ := hC L.length 0 56 M none none (by omega) (Nat.le_refl _) (fun h => by omega) (fun c m _ _ _ x hx => by omega) FV.rf (fun _ _ => rfl)
    refine ⟨res, M', ?_, r1, r2, fun c m hc hbf hnm => ?_, f1, x1⟩
    · show evm (d + r + 4 + 1) 48 _ _ = _
      rw [m48]
      simp only [s48_0, s48_1, s48_2, s48_5, s48_8, s48_11, s48_12, s48_13, s48_15, s48_17, s48_18, hR.p.1, hN.1, hlt, if_false, if_true, ck_v, ck_x, Option.toList, List.cons_append, List.nil_append, kil_nil, N_1, o10, o00, exN_0, exN_1, exN_2, exN_3, exN_4, exN_5, Ex]
      exact e1
    · have hex : ∃ x, x < L.length ∧ ∀ d, d < e → p d ≠ x := by
        rcases Classical.em (∃ x, x < L.length ∧ ∀ d, d < e → p d ≠ x) with q | q
        · exact q
        · have hall : ∀ x, x < L.length → ∃ d, d < e ∧ p d = x := fun x hx => by
            rcases Classical.em (∃ d, d < e ∧ p d = x) with q2 | q2
            · exact q2
            · exact absurd ⟨x, hx, fun d hd q3 => q2 ⟨d, hd, q3⟩⟩ q
          have := pig e L.length (fun x => pos p e x) (fun x hx => by
            obtain ⟨y, hy, ey⟩ := hall x hx
            show pos p e x < e
            rw [← ey, pos_ok hi hy]
            exact hy) (fun a b ha hb' q4 => by
            obtain ⟨y, hy, ey⟩ := hall a ha
            obtain ⟨z, hz, ez⟩ := hall b hb'
            have q5 : pos p e a = pos p e b := q4
            rw [← ey, ← ez, pos_ok hi hy, pos_ok hi hz] at q5
            rw [← ey, ← ez, q5])
          omega
      obtain ⟨x, h1, h2, h3⟩ := min_ex (n := L.length) (c := c) hex
      exact r3 c m hc hbf hnm x h1 h2 h3
theorem byOrders_ok (hR : RF R) (hW : WV V) (hN : NT I V L) (hL7 : L.length ≤ 7) (hm : ∀ k, k ∈ L → k < vn V) (hZ : Z0 M) : ∃ M' k, evm (d + 12) 47 [aR (9, 0, 0)] (I, M, R, G) = some (.inl (some (aI (N k))), (I, M', R, G)) ∧ ILS (gsp V L) L.length k ∧ Z0 M' ∧ FV M M' := by
  have hrow : RW M V L (fun _ => 0) (fun _ => 0) 0 := fun j hj _ => by
    show M (34, 0, 0) (0 + j) = aL 0
    rw [Nat.zero_add]
    exact hZ j (by omega)
  obtain ⟨res, M', e1, r1, r2, r3, f1, x1⟩ := byOrd (d := d + 7 - L.length) (G := G) hR hW hN hL7 hm L.length 0 (fun _ => 0) (fun _ => 0) 0 M (by omega) (fun d hd => by omega) (fun a b ha => by omega) (fun d hd => by omega) (by omega) (fun a b _ hb => by omega) hrow
  rw [show d + 7 - L.length + L.length + 4 = d + 11 by omega] at e1
  have e1' : evm (d + 11) 48 [aR (9, 0, 0), aI 0, aI 0, aI 0] (I, M, R, G) = some (.inl (some (aI (N res))), (I, M', R, G)) := e1
  have hle : ∀ m, FE (gsp V L) m L.length → res ≤ m := fun m hfe => by
    obtain ⟨c, h1, h2⟩ := hfe
    exact r3 c m ⟨h1, h2⟩ ⟨fun d hd => by omega, fun d hd => by omega⟩ (Nat.zero_le _)
  have h31 := hle 31 (FE31 hW hm hL7)
  refine ⟨M', res, ?_, ⟨r2 (by omega), fun m hm' hfe => ?_⟩, fun x hx => by rw [x1 x (by omega)]; exact hZ x hx, f1⟩
  · simp only [m47, s47_0, s47_1, s47_2, s47_3, s47_4, s47_7, e1', if_false, if_true, ck_v, ck_x, Option.toList, List.cons_append, List.nil_append, kil_nil, N_1, o10, o00, exN_0, exN_1, exN_2, exN_3, exN_4, exN_5, Ex]
  · have := hle m hfe
    omega
theorem CR.leastSpan {B : Bk} {hs : List Bk} {sn : Option Bk} (hR : RF R) (h : CR I B hs sn) (hW : WV B.1) (hZ : Z0 M) : ∃ I' M' k, evm (d + 14) 32 [aR (11, 0, 0)] (I, M, R, G) = some (.inl (some (aI (N k))), (I', M', R, G)) ∧ ILS (gsp B.1 (Ls B.1 none)) (Ls B.1 none).length k ∧ Z0 M' ∧ FV M M' ∧ FS I I' := by
  have h7 := h.1.1.2.2.1
  obtain ⟨I1, e1, n1, f1⟩ := load_net (d := d + 8) (M := M) (G := G) (e := none) hR hW h.1.1 (fun a h => (by cases h))
  have e1' : evm (d + 13) 33 [aR (6, 0, 0), aR (4, 0, 0), aI (-1)] (I, M, R, G) = some (.inl none, (I1, M, R, G)) := e1
  obtain ⟨I2, M2, k, e2, c1, c2, c3, c4⟩ := byNumbers_ok (d := d) (G := G) hR hW n1 (ls_7 h7) ls_m hZ
  refine ⟨I2, M2, k, ?_, c1, c2, c3, f1.fs.tr (fun o ho => c4 o (by rintro rfl; exact ho (sr2 ⟨by decide, by decide⟩)))⟩
  simp only [m32, s32_0, s32_1, s32_4, s32_7, s32_8, s32_11, s32_12, s32_15, s32_16, s32_19, s32_22, hR.o.1, hR.o.2.2.2.2.1, hR.p.1, e1', e2, if_false, if_true, ck_v, ck_x, Option.toList, List.cons_append, List.nil_append, kil_nil, N_1, o10, o00, exN_0, exN_1, exN_2, exN_3, exN_4, exN_5, Ex]
theorem CR.leastSpanByOrders {B : Bk} {hs : List Bk} {sn : Option Bk} (hR : RF R) (h : CR I B hs sn) (hW : WV B.1) (hZ : Z0 M) : ∃ I' M' k, evm (d + 13) 46 [aR (11, 0, 0)] (I, M, R, G) = some (.inl (some (aI (N k))), (I', M', R, G)) ∧ ILS (gsp B.1 (Ls B.1 none)) (Ls B.1 none).length k ∧ Z0 M' ∧ FV M M' ∧ FS I I' := by
  have h7 := h.1.1.2.2.1
  obtain ⟨I1, e1, n1, f1⟩ := load_net (d := d + 7) (M := M) (G := G) (e := none) hR hW h.1.1 (fun a h => (by cases h))
  have e1' : evm (d + 12) 33 [aR (6, 0, 0), aR (4, 0, 0), aI (-1)] (I, M, R, G) = some (.inl none, (I1, M, R, G)) := e1
  obtain ⟨M2, k, e2, c1, c2, c3⟩ := byOrders_ok (d := d) (G := G) hR hW n1 (ls_7 h7) ls_m hZ
  refine ⟨I1, M2, k, ?_, c1, c2, c3, f1.fs⟩
  simp only [m46, s46_0, s46_1, s46_4, s46_7, s46_8, s46_11, s46_12, s46_15, s46_16, s46_19, s46_22, hR.o.1, hR.o.2.2.2.2.1, hR.p.1, e1', e2, if_false, if_true, ck_v, ck_x, Option.toList, List.cons_append, List.nil_append, kil_nil, N_1, o10, o00, exN_0, exN_1, exN_2, exN_3, exN_4, exN_5, Ex]
end ORDERS
