/-! THE METHODS' MEANING: what the model writes into its row -/
theorem MW.fr {r r' : Nat → Int32} {B : Bk} (h : MW r B) (e : ∀ x, x < 106 → r' x = r x) : MW r' B := by
  obtain ⟨⟨r0, r1, r2⟩, ⟨r3, r4, r5, r6⟩, r7, h7, r8, hp, hf, hl, hc⟩ := h
  refine ⟨⟨?_, ?_, ?_⟩, ⟨?_, ?_, ?_, ?_⟩, ?_, h7, ?_, ?_, ?_, ?_, ?_⟩
  · rw [e 0 (by decide)]; exact r0
  · rw [e 1 (by decide)]; exact r1
  · rw [e 2 (by decide)]; exact r2
  · rw [e 3 (by decide)]; exact r3
  · rw [e 4 (by decide)]; exact r4
  · rw [e 5 (by decide)]; exact r5
  · rw [e 6 (by decide)]; exact r6
  · rw [e 7 (by decide)]; exact r7
  · rw [e 8 (by decide)]; exact r8
  · intro m hm hb
    rw [e _ (by omega), e _ (by omega), e _ (by omega)]; exact hp m hm hb
  · intro k hk f hf'
    rw [e _ (by omega)]; exact hf k hk f hf'
  · intro k hk
    rw [e _ (by omega)]; exact hl k hk
  · intro a b ha hb
    rw [e _ (by omega)]; exact hc a b ha hb
section MROW
variable {d : Nat} {I I' : OId → Nat → Int32} {M R : OId → Nat → AV} {G : SG} {B B' : Bk}
theorem mw_fd {k g : Nat} {v : Int32} (h : MW (I (35, 0, 0)) B) (hk : k < 7) (hg : g < 5) : MW (setI I (35, 0, 0) (15 + 6 * k + g) v (35, 0, 0)) (fdB B k g v) := by
  obtain ⟨⟨r0, r1, r2⟩, ⟨r3, r4, r5, r6⟩, r7, h7, r8, hp, hf, hl, hc⟩ := h
  refine ⟨⟨?_, ?_, ?_⟩, ⟨?_, ?_, ?_, ?_⟩, ?_, h7, ?_, ?_, ?_, ?_, ?_⟩
  · rw [setI_at, if_neg (by omega)]; exact r0
  · rw [setI_at, if_neg (by omega)]; exact r1
  · rw [setI_at, if_neg (by omega)]; exact r2
  · rw [setI_at, if_neg (by omega)]; exact r3
  · rw [setI_at, if_neg (by omega)]; exact r4
  · rw [setI_at, if_neg (by omega)]; exact r5
  · rw [setI_at, if_neg (by omega)]; exact r6
  · rw [setI_at, if_neg (by omega)]; exact r7
  · rw [setI_at, if_neg (by omega)]; exact r8
  · intro m hm hb
    rw [setI_at, if_neg (by omega), setI_at, if_neg (by omega), setI_at, if_neg (by omega)]; exact hp m hm hb
  · intro i hi f hf'
    show _ = if i = k ∧ f = g then v else vf B.1 i f
    rw [setI_at]
    by_cases hq : i = k ∧ f = g
    · rw [if_pos hq, if_pos (by omega)]
    · rw [if_neg hq, if_neg (by omega)]; exact hf i hi f hf'
  · intro i hi
    rw [setI_at, if_neg (by omega)]; exact hl i hi
  · intro a b ha hb
    rw [setI_at, if_neg (by omega)]; exact hc a b ha hb
theorem mw_li {k : Nat} (h : MW (I (35, 0, 0)) B) (hk : k < 7) : MW (setI I (35, 0, 0) (15 + 6 * k + 5) 1 (35, 0, 0)) (liB B k) := by
  obtain ⟨⟨r0, r1, r2⟩, ⟨r3, r4, r5, r6⟩, r7, h7, r8, hp, hf, hl, hc⟩ := h
  refine ⟨⟨?_, ?_, ?_⟩, ⟨?_, ?_, ?_, ?_⟩, ?_, h7, ?_, ?_, ?_, ?_, ?_⟩
  · rw [setI_at, if_neg (by omega)]; exact r0
  · rw [setI_at, if_neg (by omega)]; exact r1
  · rw [setI_at, if_neg (by omega)]; exact r2
  · rw [setI_at, if_neg (by omega)]; exact r3
  · rw [setI_at, if_neg (by omega)]; exact r4
  · rw [setI_at, if_neg (by omega)]; exact r5
  · rw [setI_at, if_neg (by omega)]; exact r6
  · rw [setI_at, if_neg (by omega)]; exact r7
  · rw [setI_at, if_neg (by omega)]; exact r8
  · intro m hm hb
    rw [setI_at, if_neg (by omega), setI_at, if_neg (by omega), setI_at, if_neg (by omega)]; exact hp m hm hb
  · intro i hi f hf'
    rw [setI_at, if_neg (by omega)]; exact hf i hi f hf'
  · intro i hi
    show _ = if (if i = k then true else vl B.1 i) = true then 1 else 0
    rw [setI_at]
    by_cases hq : i = k
    · rw [if_pos hq, if_pos (by omega)]; rfl
    · rw [if_neg hq, if_neg (by omega)]; exact hl i hi
  · intro a b ha hb
    rw [setI_at, if_neg (by omega)]; exact hc a b ha hb
theorem mw_rad {n m f : Int32} (h : MW (I (35, 0, 0)) B) : MW (setI (setI (setI I (35, 0, 0) 0 n) (35, 0, 0) 1 m) (35, 0, 0) 2 f (35, 0, 0)) (radB B n m f) := by
  have e : ∀ x, setI (setI (setI I (35, 0, 0) 0 n) (35, 0, 0) 1 m) (35, 0, 0) 2 f (35, 0, 0) x = if x = 2 then f else if x = 1 then m else if x = 0 then n else I (35, 0, 0) x := fun x => by rw [setI_at, setI_at, setI_at]
  have e' : ∀ x, 3 ≤ x → setI (setI (setI I (35, 0, 0) 0 n) (35, 0, 0) 1 m) (35, 0, 0) 2 f (35, 0, 0) x = I (35, 0, 0) x := fun x hx => by rw [e, if_neg (by omega), if_neg (by omega), if_neg (by omega)]
  obtain ⟨⟨r0, r1, r2⟩, ⟨r3, r4, r5, r6⟩, r7, h7, r8, hp, hf, hl, hc⟩ := h
  refine ⟨⟨?_, ?_, ?_⟩, ⟨?_, ?_, ?_, ?_⟩, ?_, h7, ?_, ?_, ?_, ?_, ?_⟩
  · rw [e]; rfl
  · rw [e]; rfl
  · rw [e]; rfl
  · rw [e' _ (by omega)]; exact r3
  · rw [e' _ (by omega)]; exact r4
  · rw [e' _ (by omega)]; exact r5
  · rw [e' _ (by omega)]; exact r6
  · rw [e' _ (by omega)]; exact r7
  · rw [e' _ (by omega)]; exact r8
  · intro i hi hb
    rw [e' _ (by omega), e' _ (by omega), e' _ (by omega)]; exact hp i hi hb
  · intro i hi f hf'
    rw [e' _ (by omega)]; exact hf i hi f hf'
  · intro i hi
    rw [e' _ (by omega)]; exact hl i hi
  · intro a b ha hb
    rw [e' _ (by omega)]; exact hc a b ha hb
theorem mw_scal {g : Nat} {v : Int32} {q : Int32 × Int32 × Int32 × Int32} (h : MW (I (35, 0, 0)) B) (hg : g < 7 ∧ 3 ≤ g) (h3 : q.1 = if g = 3 then v else bday B) (h4 : q.2.1 = if g = 4 then v else bnext B) (h5 : q.2.2.1 = if g = 5 then v else bexp B) (h6 : q.2.2.2 = if g = 6 then v else bend B) : MW (setI I (35, 0, 0) g v (35, 0, 0)) (B.1, q, B.2.2) := by
  obtain ⟨⟨r0, r1, r2⟩, ⟨r3, r4, r5, r6⟩, r7, h7, r8, hp, hf, hl, hc⟩ := h
  refine ⟨⟨?_, ?_, ?_⟩, ⟨?_, ?_, ?_, ?_⟩, ?_, h7, ?_, ?_, ?_, ?_, ?_⟩
  · rw [setI_at, if_neg (by omega)]; exact r0
  · rw [setI_at, if_neg (by omega)]; exact r1
  · rw [setI_at, if_neg (by omega)]; exact r2
  · show _ = q.1
    rw [setI_at, h3]
    by_cases hq : g = 3
    · rw [if_pos hq.symm, if_pos hq]
    · rw [if_neg (Ne.symm hq), if_neg hq]; exact r3
  · show _ = q.2.1
    rw [setI_at, h4]
    by_cases hq : g = 4
    · rw [if_pos hq.symm, if_pos hq]
    · rw [if_neg (Ne.symm hq), if_neg hq]; exact r4
  · show _ = q.2.2.1
    rw [setI_at, h5]
    by_cases hq : g = 5
    · rw [if_pos hq.symm, if_pos hq]
    · rw [if_neg (Ne.symm hq), if_neg hq]; exact r5
  · show _ = q.2.2.2
    rw [setI_at, h6]
    by_cases hq : g = 6
    · rw [if_pos hq.symm, if_pos hq]
    · rw [if_neg (Ne.symm hq), if_neg hq]; exact r6
  · rw [setI_at, if_neg (by omega)]; exact r7
  · rw [setI_at, if_neg (by omega)]; exact r8
  · intro m hm hb
    rw [setI_at, if_neg (by omega), setI_at, if_neg (by omega), setI_at, if_neg (by omega)]; exact hp m hm hb
  · intro i hi f hf'
    rw [setI_at, if_neg (by omega)]; exact hf i hi f hf'
  · intro i hi
    rw [setI_at, if_neg (by omega)]; exact hl i hi
  · intro a b ha hb
    rw [setI_at, if_neg (by omega)]; exact hc a b ha hb
def lcI (I : OId → Nat → Int32) (i k : Nat) (v : Int32) : OId → Nat → Int32 := setI (setI I (35, 0, 0) (57 + 7 * i + k) v) (35, 0, 0) (57 + 7 * k + i) v
theorem lcI_ne {i k : Nat} {v : Int32} {o : OId} (h : o ≠ (35, 0, 0)) : lcI I i k v o = I o := by
  unfold lcI
  rw [setI_ne h, setI_ne h]
theorem mw_cmp {i k : Nat} {v : Int32} (h : MW (I (35, 0, 0)) B) (hi : i < 7) (hk : k < 7) : MW (lcI I i k v (35, 0, 0)) (cmpB B i k v) := by
  have e : ∀ x, lcI I i k v (35, 0, 0) x = if x = 57 + 7 * i + k ∨ x = 57 + 7 * k + i then v else I (35, 0, 0) x := fun x => by
    unfold lcI
    rw [setI_at, setI_at]
    by_cases h1 : x = 57 + 7 * k + i
    · rw [if_pos h1, if_pos (Or.inr h1)]
    · rw [if_neg h1]
      by_cases h2 : x = 57 + 7 * i + k
      · rw [if_pos h2, if_pos (Or.inl h2)]
      · rw [if_neg h2, if_neg (by omega)]
  have e' : ∀ x, x < 57 → lcI I i k v (35, 0, 0) x = I (35, 0, 0) x := fun x hx => by rw [e, if_neg (by omega)]
  obtain ⟨⟨r0, r1, r2⟩, ⟨r3, r4, r5, r6⟩, r7, h7, r8, hp, hf, hl, hc⟩ := h
  refine ⟨⟨?_, ?_, ?_⟩, ⟨?_, ?_, ?_, ?_⟩, ?_, h7, ?_, ?_, ?_, ?_, ?_⟩
  · rw [e' _ (by omega)]; exact r0
  · rw [e' _ (by omega)]; exact r1
  · rw [e' _ (by omega)]; exact r2
  · rw [e' _ (by omega)]; exact r3
  · rw [e' _ (by omega)]; exact r4
  · rw [e' _ (by omega)]; exact r5
  · rw [e' _ (by omega)]; exact r6
  · rw [e' _ (by omega)]; exact r7
  · rw [e' _ (by omega)]; exact r8
  · intro m hm hb
    rw [e' _ (by omega), e' _ (by omega), e' _ (by omega)]; exact hp m hm hb
  · intro i hi f hf'
    have hi' : i < vn B.1 := hi
    rw [e' _ (by omega)]; exact hf i hi f hf'
  · intro i hi
    have hi' : i < vn B.1 := hi
    rw [e' _ (by omega)]; exact hl i hi
  · intro a b ha hb
    have ha' : a < vn B.1 := ha
    have hb' : b < vn B.1 := hb
    show _ = if a = i ∧ b = k ∨ a = k ∧ b = i then v else vc B.1 a b
    rw [e]
    by_cases hq : a = i ∧ b = k ∨ a = k ∧ b = i
    · rw [if_pos hq, if_pos (by omega)]
    · rw [if_neg hq, if_neg (by omega)]; exact hc a b ha hb
theorem x15 {k f : Nat} : (15 : Int32) + 6 * N k + N f = N (15 + 6 * k + f) := by
  show N 15 + N 6 * N k + N f = _
  rw [N_mul, N_add, N_add]
theorem x57 {k f : Nat} : (57 : Int32) + 7 * N k + N f = N (57 + 7 * k + f) := by
  show N 57 + N 7 * N k + N f = _
  rw [N_mul, N_add, N_add]
theorem x577 {k f : Nat} : (57 : Int32) + 7 * N k + 7 + N f = N (57 + 7 * k + f + 7) := by
  show N 57 + N 7 * N k + N 7 + N f = _
  rw [N_mul, N_add, N_add, N_add]
  exact congrArg N (by omega)
theorem x571 {k f : Nat} : (57 : Int32) + 7 * N k + N f + 1 = N (57 + 7 * k + f + 1) := by
  rw [x57, N_1]
theorem lays_ok {k f : Nat} {v : Int32} (hR : RF R) (hk : k < 7) (hf : f < 6) : evm (d + 1) 242 [aR (12, 0, 0), aI (N k), aI (N f), aI v] (I, M, R, G) = some (.inl none, (setI I (35, 0, 0) (15 + 6 * k + f) v, M, R, G)) := by
  simp only [m242, s242_0, s242_1, s242_4, s242_6, s242_8, s242_9, s242_10, s242_11, s242_12, s242_13, s242_14, s242_15, hR.m.1, x15, knw (show 15 + 6 * k + f < 106 by omega), N_cl (show 15 + 6 * k + f < 2147483648 by omega)]
theorem lays0 {k : Nat} {v : Int32} (hR : RF R) (hk : k < 7) : evm (d + 1) 242 [aR (12, 0, 0), aI (N k), aI 0, aI v] (I, M, R, G) = some (.inl none, (setI I (35, 0, 0) (15 + 6 * k + 0) v, M, R, G)) := lays_ok (f := 0) hR hk (by decide)
theorem lays1 {k : Nat} {v : Int32} (hR : RF R) (hk : k < 7) : evm (d + 1) 242 [aR (12, 0, 0), aI (N k), aI 1, aI v] (I, M, R, G) = some (.inl none, (setI I (35, 0, 0) (15 + 6 * k + 1) v, M, R, G)) := lays_ok (f := 1) hR hk (by decide)
theorem lays2 {k : Nat} {v : Int32} (hR : RF R) (hk : k < 7) : evm (d + 1) 242 [aR (12, 0, 0), aI (N k), aI 2, aI v] (I, M, R, G) = some (.inl none, (setI I (35, 0, 0) (15 + 6 * k + 2) v, M, R, G)) := lays_ok (f := 2) hR hk (by decide)
theorem lays3 {k : Nat} {v : Int32} (hR : RF R) (hk : k < 7) : evm (d + 1) 242 [aR (12, 0, 0), aI (N k), aI 3, aI v] (I, M, R, G) = some (.inl none, (setI I (35, 0, 0) (15 + 6 * k + 3) v, M, R, G)) := lays_ok (f := 3) hR hk (by decide)
theorem lays4 {k : Nat} {v : Int32} (hR : RF R) (hk : k < 7) : evm (d + 1) 242 [aR (12, 0, 0), aI (N k), aI 4, aI v] (I, M, R, G) = some (.inl none, (setI I (35, 0, 0) (15 + 6 * k + 4) v, M, R, G)) := lays_ok (f := 4) hR hk (by decide)
theorem lays5 {k : Nat} {v : Int32} (hR : RF R) (hk : k < 7) : evm (d + 1) 242 [aR (12, 0, 0), aI (N k), aI 5, aI v] (I, M, R, G) = some (.inl none, (setI I (35, 0, 0) (15 + 6 * k + 5) v, M, R, G)) := lays_ok (f := 5) hR hk (by decide)
theorem laysC_ok {i k : Nat} {v : Int32} (hR : RF R) (hi : i < 7) (hk : k < 7) : evm (d + 1) 245 [aR (12, 0, 0), aI (N i), aI (N k), aI v] (I, M, R, G) = some (.inl none, (lcI I i k v, M, R, G)) := by
  simp only [m245, s245_0, s245_1, s245_4, s245_6, s245_8, s245_9, s245_10, s245_11, s245_12, s245_13, s245_14, s245_15, s245_16, s245_19, s245_21, s245_23, s245_24, s245_25, s245_26, s245_27, s245_28, s245_29, s245_30, hR.m.1, x57, knw (show 57 + 7 * i + k < 106 by omega), knw (show 57 + 7 * k + i < 106 by omega), N_cl (show 57 + 7 * i + k < 2147483648 by omega), N_cl (show 57 + 7 * k + i < 2147483648 by omega), lcI]
/-- the complaints of n with the first k are 0 -/
def zcI (I : OId → Nat → Int32) (n k : Nat) : OId → Nat → Int32 := fun o f => if o = (35, 0, 0) ∧ 57 ≤ f ∧ f < 106 ∧ ((f - 57) / 7 = n ∧ (f - 57) % 7 < k ∨ (f - 57) % 7 = n ∧ (f - 57) / 7 < k) then 0 else I o f
theorem zcI_0 {n : Nat} : zcI I n 0 = I := by
  funext o f
  unfold zcI
  rw [if_neg (by omega)]
theorem zcI_s {n k : Nat} (hn : n < 7) (hk : k < 7) : lcI (zcI I n k) n k 0 = zcI I n (k + 1) := by
  funext o f
  by_cases ho : o = (35, 0, 0)
  · subst ho
    unfold lcI
    rw [setI_at, setI_at]
    unfold zcI
    by_cases h1 : f = 57 + 7 * k + n
    · rw [if_pos h1, if_pos ⟨rfl, by omega, by omega, Or.inr (by omega)⟩]
    · rw [if_neg h1]
      by_cases h2 : f = 57 + 7 * n + k
      · rw [if_pos h2, if_pos ⟨rfl, by omega, by omega, Or.inl (by omega)⟩]
      · rw [if_neg h2]
        by_cases h3 : 57 ≤ f ∧ f < 106 ∧ ((f - 57) / 7 = n ∧ (f - 57) % 7 < k ∨ (f - 57) % 7 = n ∧ (f - 57) / 7 < k)
        · rw [if_pos ⟨rfl, h3⟩, if_pos ⟨rfl, h3.1, h3.2.1, by omega⟩]
        · rw [if_neg (fun q => h3 q.2), if_neg (fun q => h3 ⟨q.2.1, q.2.2.1, by omega⟩)]
  · rw [lcI_ne ho]
    unfold zcI
    rw [if_neg (fun q => ho q.1), if_neg (fun q => ho q.1)]
theorem zcI_ne {n k : Nat} {o : OId} (h : o ≠ (35, 0, 0)) : zcI I n k o = I o := by
  funext f
  unfold zcI
  rw [if_neg (fun q => h q.1)]
def ad6 (I : OId → Nat → Int32) (n : Nat) (x0 x1 x2 x3 x4 x5 : Int32) : OId → Nat → Int32 := setI (setI (setI (setI (setI (setI I (35, 0, 0) (15 + 6 * n + 0) x0) (35, 0, 0) (15 + 6 * n + 1) x1) (35, 0, 0) (15 + 6 * n + 2) x2) (35, 0, 0) (15 + 6 * n + 3) x3) (35, 0, 0) (15 + 6 * n + 4) x4) (35, 0, 0) (15 + 6 * n + 5) x5
theorem adds_ok {x y c days l : Int32} (hR : RF R) (h : MW (I (35, 0, 0)) B) (hn : vn B.1 < 7) (hl01 : l = 0 ∨ l = 1) : ∃ I', evm (d + 2) 244 [aR (12, 0, 0), aI x, aI y, aI c, aI days, aI l] (I, M, R, G) = some (.inl (some (aI (bnext B))), (I', M, R, G)) ∧ MW (I' (35, 0, 0)) (addB B x y c (bday B + days) (decide (l = 1))) ∧ ∀ o, o ≠ (35, 0, 0) → I' o = I o := by
  have h9 := h
  obtain ⟨⟨r0, r1, r2⟩, ⟨r3, r4, r5, r6⟩, r7, h7, r8, hp, hf, hl, hc⟩ := h
  have e6 : ∀ f, ad6 I (vn B.1) (bnext B) x y c (bday B + days) l (35, 0, 0) f = if f = 15 + 6 * vn B.1 + 5 then l else if f = 15 + 6 * vn B.1 + 4 then bday B + days else if f = 15 + 6 * vn B.1 + 3 then c else if f = 15 + 6 * vn B.1 + 2 then y else if f = 15 + 6 * vn B.1 + 1 then x else if f = 15 + 6 * vn B.1 + 0 then bnext B else I (35, 0, 0) f := fun f => by
    unfold ad6
    rw [setI_at, setI_at, setI_at, setI_at, setI_at, setI_at]
  have ez : ∀ f, f < 57 → zcI (ad6 I (vn B.1) (bnext B) x y c (bday B + days) l) (vn B.1) 7 (35, 0, 0) f = ad6 I (vn B.1) (bnext B) x y c (bday B + days) l (35, 0, 0) f := fun f hf => by
    unfold zcI
    rw [if_neg (by omega)]
  have elo : ∀ f, f < 15 → ad6 I (vn B.1) (bnext B) x y c (bday B + days) l (35, 0, 0) f = I (35, 0, 0) f := fun f hf => by
    rw [e6, if_neg (by omega), if_neg (by omega), if_neg (by omega), if_neg (by omega), if_neg (by omega), if_neg (by omega)]
  have eall : ∀ f, setI (setI (zcI (ad6 I (vn B.1) (bnext B) x y c (bday B + days) l) (vn B.1) 7) (35, 0, 0) 7 (N (vn B.1 + 1))) (35, 0, 0) 4 (bnext B + 1) (35, 0, 0) f = if f = 4 then bnext B + 1 else if f = 7 then N (vn B.1 + 1) else zcI (ad6 I (vn B.1) (bnext B) x y c (bday B + days) l) (vn B.1) 7 (35, 0, 0) f := fun f => by rw [setI_at, setI_at]
  refine ⟨setI (setI (zcI (ad6 I (vn B.1) (bnext B) x y c (bday B + days) l) (vn B.1) 7) (35, 0, 0) 7 (N (vn B.1 + 1))) (35, 0, 0) 4 (bnext B + 1), ?_, ?_, ?_⟩
  · rw [m244]
    have q3 : ∀ x0 x1 x2 x3, setI (setI (setI (setI I (35, 0, 0) (15 + 6 * vn B.1 + 0) x0) (35, 0, 0) (15 + 6 * vn B.1 + 1) x1) (35, 0, 0) (15 + 6 * vn B.1 + 2) x2) (35, 0, 0) (15 + 6 * vn B.1 + 3) x3 (35, 0, 0) 3 = bday B := fun x0 x1 x2 x3 => by
      rw [setI_at, setI_at, setI_at, setI_at, if_neg (by omega), if_neg (by omega), if_neg (by omega), if_neg (by omega)]; exact r3
    simp only [s244_0, s244_1, s244_4, s244_6, s244_7, s244_9, s244_10, s244_12, s244_13, s244_14, s244_17, s244_18, s244_19, s244_22, s244_23, s244_25, s244_26, s244_27, s244_30, s244_31, s244_33, s244_34, s244_35, s244_38, s244_39, s244_41, s244_42, s244_43, s244_46, s244_47, s244_49, s244_50, s244_51, s244_54, s244_55, s244_56, s244_58, s244_59, s244_62, s244_63, s244_65, s244_66, s244_68, s244_71, s244_72, hR.m.1, kn3, kn4, kn7, cl3, cl4, cl7, ag35, r4, r7, lays0 hR hn, lays1 hR hn, lays2 hR hn, lays3 hR hn, lays4 hR hn, lays5 hR hn, q3, if_false, if_true, ck_v, ck_x, Option.toList, List.cons_append, List.nil_append, kil_nil, N_1, o10, o00, exN_0, exN_1, exN_2, exN_3, exN_4, exN_5, Ex]
    have hs : ∀ k, k < 7 → ev (evm (d + 1)) 244 74 [some (aR (12, 0, 0)), some (aI x), some (aI y), some (aI c), some (aI days), some (aI l), some (aI (N (vn B.1))), some (aI (N k))] [] [] (zcI (ad6 I (vn B.1) (bnext B) x y c (bday B + days) l) (vn B.1) k, M, R, G) = ev (evm (d + 1)) 244 74 [some (aR (12, 0, 0)), some (aI x), some (aI y), some (aI c), some (aI days), some (aI l), some (aI (N (vn B.1))), some (aI (N (k + 1)))] [] [] (zcI (ad6 I (vn B.1) (bnext B) x y c (bday B + days) l) (vn B.1) (k + 1), M, R, G) := by
      intro k hk
      have e7 : ((7 : Int32) ≤ N k) = False := N_ge (a := k) (b := 7) hk (by decide)
      rw [s244_74]
      simp only [m244, s244_0, s244_1, s244_4, s244_6, s244_7, s244_9, s244_10, s244_12, s244_13, s244_14, s244_17, s244_18, s244_19, s244_22, s244_23, s244_25, s244_26, s244_27, s244_30, s244_31, s244_33, s244_34, s244_35, s244_38, s244_39, s244_41, s244_42, s244_43, s244_46, s244_47, s244_49, s244_50, s244_51, s244_54, s244_55, s244_56, s244_58, s244_59, s244_62, s244_63, s244_65, s244_66, s244_68, s244_71, s244_72, s244_76, s244_78, s244_81, s244_82, s244_84, s244_86, s244_87, s244_90, s244_93, s244_96, s244_97, s244_100, s244_102, s244_103, s244_104, s244_105, s244_106, s244_107, s244_108, s244_111, s244_112, s244_113, s244_114, s244_115, s244_116, s244_117, s244_118, s244_121, s244_122, s244_123, s244_124, s244_125, e7, laysC_ok hR hn hk, zcI_s hn hk, if_false, if_true, ck_v, ck_x, Option.toList, List.cons_append, List.nil_append, kil_nil, N_1, o10, o00, exN_0, exN_1, exN_2, exN_3, exN_4, exN_5, Ex]
    have e0 : ev (evm (d + 1)) 244 74 [some (aR (12, 0, 0)), some (aI x), some (aI y), some (aI c), some (aI days), some (aI l), some (aI (N (vn B.1))), some (aI 0)] [] [] (ad6 I (vn B.1) (bnext B) x y c (bday B + days) l, M, R, G) = ev (evm (d + 1)) 244 74 [some (aR (12, 0, 0)), some (aI x), some (aI y), some (aI c), some (aI days), some (aI l), some (aI (N (vn B.1))), some (aI (N 0))] [] [] (zcI (ad6 I (vn B.1) (bnext B) x y c (bday B + days) l) (vn B.1) 0, M, R, G) := by rw [zcI_0]; rfl
    refine e0.trans ((iter (f := fun k => ev (evm (d + 1)) 244 74 [some (aR (12, 0, 0)), some (aI x), some (aI y), some (aI c), some (aI days), some (aI l), some (aI (N (vn B.1))), some (aI (N k))] [] [] (zcI (ad6 I (vn B.1) (bnext B) x y c (bday B + days) l) (vn B.1) k, M, R, G)) hs).trans ?_)
    have e7 : ((7 : Int32) ≤ N 7) = True := N_ge1 (a := 7) (b := 7) (Nat.le_refl _) (by decide)
    have w7 : zcI (ad6 I (vn B.1) (bnext B) x y c (bday B + days) l) (vn B.1) 7 (35, 0, 0) 7 = N (vn B.1) := by rw [ez 7 (by decide), elo 7 (by decide)]; exact r7
    have w4 : ∀ v, setI (zcI (ad6 I (vn B.1) (bnext B) x y c (bday B + days) l) (vn B.1) 7) (35, 0, 0) 7 v (35, 0, 0) 4 = bnext B := fun v => by rw [setI_at, if_neg (by decide), ez 4 (by decide), elo 4 (by decide)]; exact r4
    have w44 : ∀ w v, setI (setI (zcI (ad6 I (vn B.1) (bnext B) x y c (bday B + days) l) (vn B.1) 7) (35, 0, 0) 7 w) (35, 0, 0) 4 v (35, 0, 0) 4 = v := fun w v => by rw [setI_at, if_pos rfl]
    have kw7 : ∀ r, kIw (35, 0, 0) 7 r = r := fun r => knw (i := 7) (by decide)
    have kw4 : ∀ r, kIw (35, 0, 0) 4 r = r := fun r => knw (i := 4) (by decide)
    have ea : bnext B + 1 - 1 = bnext B := by grind
    rw [s244_74]
    simp only [m244, s244_0, s244_1, s244_4, s244_6, s244_7, s244_9, s244_10, s244_12, s244_13, s244_14, s244_17, s244_18, s244_19, s244_22, s244_23, s244_25, s244_26, s244_27, s244_30, s244_31, s244_33, s244_34, s244_35, s244_38, s244_39, s244_41, s244_42, s244_43, s244_46, s244_47, s244_49, s244_50, s244_51, s244_54, s244_55, s244_56, s244_58, s244_59, s244_62, s244_63, s244_65, s244_66, s244_68, s244_71, s244_72, s244_76, s244_78, s244_81, s244_82, s244_84, s244_86, s244_87, s244_90, s244_93, s244_96, s244_97, s244_100, s244_102, s244_103, s244_104, s244_105, s244_106, s244_107, s244_108, s244_111, s244_112, s244_113, s244_114, s244_115, s244_116, s244_117, s244_118, s244_121, s244_122, s244_123, s244_124, s244_125, e7, hR.m.1, kn4, kn7, cl4, cl7, ag35, w7, w4, w44, kw7, kw4, ea, if_false, if_true, ck_v, ck_x, Option.toList, List.cons_append, List.nil_append, kil_nil, N_1, o10, o00, exN_0, exN_1, exN_2, exN_3, exN_4, exN_5, Ex]
  · refine ⟨⟨?_, ?_, ?_⟩, ⟨?_, ?_, ?_, ?_⟩, ?_, ?_, ?_, ?_, ?_, ?_, ?_⟩
    · rw [eall, if_neg (by omega), if_neg (by omega), ez 0 (by omega), elo 0 (by omega)]; exact r0
    · rw [eall, if_neg (by omega), if_neg (by omega), ez 1 (by omega), elo 1 (by omega)]; exact r1
    · rw [eall, if_neg (by omega), if_neg (by omega), ez 2 (by omega), elo 2 (by omega)]; exact r2
    · rw [eall, if_neg (by omega), if_neg (by omega), ez 3 (by omega), elo 3 (by omega)]; exact r3
    · rw [eall, if_pos rfl]; rfl
    · rw [eall, if_neg (by omega), if_neg (by omega), ez 5 (by omega), elo 5 (by omega)]; exact r5
    · rw [eall, if_neg (by omega), if_neg (by omega), ez 6 (by omega), elo 6 (by omega)]; exact r6
    · rw [eall, if_neg (by omega), if_pos rfl]; rfl
    · show vn B.1 + 1 ≤ 7
      omega
    · rw [eall, if_neg (by omega), if_neg (by omega), ez 8 (by omega), elo 8 (by omega)]; exact r8
    · intro m hm hb
      rw [eall, if_neg (by omega), if_neg (by omega), ez _ (by omega), elo _ (by omega), eall, if_neg (by omega), if_neg (by omega), ez _ (by omega), elo _ (by omega), eall, if_neg (by omega), if_neg (by omega), ez _ (by omega), elo _ (by omega)]
      exact hp m hm hb
    · intro k hk f
      have hk' : k < vn B.1 + 1 := hk
      have ef : vf (addB B x y c (bday B + days) (decide (l = 1))).1 k f = if k = vn B.1 then (match f with | 0 => bnext B | 1 => x | 2 => y | 3 => c | _ => bday B + days) else vf B.1 k f := rfl
      intro hf'
      rw [eall, if_neg (by omega), if_neg (by omega), ez _ (by omega), e6, ef]
      clear ef
      by_cases hkn : k = vn B.1
      · subst hkn
        rw [if_pos rfl]
        match f, hf' with
        | 0, _ => rw [if_neg (by omega), if_neg (by omega), if_neg (by omega), if_neg (by omega), if_neg (by omega), if_pos (by omega)]; rfl
        | 1, _ => rw [if_neg (by omega), if_neg (by omega), if_neg (by omega), if_neg (by omega), if_pos (by omega)]; rfl
        | 2, _ => rw [if_neg (by omega), if_neg (by omega), if_neg (by omega), if_pos (by omega)]; rfl
        | 3, _ => rw [if_neg (by omega), if_neg (by omega), if_pos (by omega)]; rfl
        | 4, _ => rw [if_neg (by omega), if_pos (by omega)]; rfl
        | n + 5, hf' => omega
      · rw [if_neg hkn, if_neg (by omega), if_neg (by omega), if_neg (by omega), if_neg (by omega), if_neg (by omega), if_neg (by omega)]
        exact hf k (by omega) f hf'
    · intro k hk
      have hk' : k < vn B.1 + 1 := hk
      rw [eall, if_neg (by omega), if_neg (by omega), ez _ (by omega), e6]
      show _ = if (if k = vn B.1 then decide (l = 1) else vl B.1 k) = true then 1 else 0
      by_cases hkn : k = vn B.1
      · rw [if_pos (by omega), if_pos hkn]
        rcases hl01 with rfl | rfl <;> rfl
      · rw [if_neg hkn, if_neg (by omega), if_neg (by omega), if_neg (by omega), if_neg (by omega), if_neg (by omega), if_neg (by omega)]
        exact hl k (by omega)
    · intro a b ha hb
      have ha' : a < vn B.1 + 1 := ha
      have hb' : b < vn B.1 + 1 := hb
      rw [eall, if_neg (by omega), if_neg (by omega)]
      show _ = if a = vn B.1 ∨ b = vn B.1 then 0 else vc B.1 a b
      unfold zcI
      by_cases hq : a = vn B.1 ∨ b = vn B.1
      · rw [if_pos hq, if_pos ⟨rfl, by omega, by omega, by omega⟩]
      · rw [if_neg hq, if_neg (fun q => hq (by omega)), e6, if_neg (by omega), if_neg (by omega), if_neg (by omega), if_neg (by omega), if_neg (by omega), if_neg (by omega)]
        exact hc a b (by omega) (by omega)
  · intro o ho
    rw [setI_ne ho, setI_ne ho, zcI_ne ho]
    unfold ad6
    rw [setI_ne ho, setI_ne ho, setI_ne ho, setI_ne ho, setI_ne ho, setI_ne ho]
end MROW
