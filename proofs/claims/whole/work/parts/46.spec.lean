/-! THE METHODS' MEANING: loops over the books -/
theorem kil_nil {k : Nat} : kil [] k = [] := rfl
theorem kil2_nil {k : Nat} : kil2 [] k = [] := rfl
theorem loop {α β : Type} {n : Nat} {P : Nat → β → Prop} {f : Nat → β → α} {r : α} (step : ∀ k b, k < n → P k b → f k b = r ∨ ∃ b', P (k + 1) b' ∧ f k b = f (k + 1) b') (fin : ∀ b, P n b → f n b = r) : ∀ b, P 0 b → f 0 b = r := by
  have key : ∀ i k b, n = k + i → P k b → f k b = r := by
    intro i
    induction i with
    | zero =>
      intro k b h hP
      rw [Nat.add_zero] at h
      subst h
      exact fin b hP
    | succ i ih =>
      intro k b h hP
      rcases step k b (by omega) hP with h1 | ⟨b', h1, h2⟩
      · exact h1
      · rw [h2]
        exact ih (k + 1) b' (by omega) h1
  exact fun b hP => key n 0 b (Nat.zero_add n).symm hP
/-- a loop that ends by itself, what a run leaves in a local that nobody reads -/
theorem loopJ {α β : Type} {n : Nat} {f : Nat → β → α} {r : α} (step : ∀ k b, k < n → ∃ b', f k b = f (k + 1) b') (fin : ∀ b, f n b = r) (b : β) : f 0 b = r :=
  loop (P := fun _ _ => True) (fun k b hk _ => Or.inr ((step k b hk).imp fun b' h => ⟨trivial, h⟩)) (fun b _ => fin b) b trivial
section BOOKS2
variable {d j n : Nat} {I : OId → Nat → Int32} {M R : OId → Nat → AV} {G : SG}
def idB (I : OId → Nat → Int32) (j : Nat) (id : Int32) (k : Nat) : Bool := decide (I (10, j, k) 0 = id)
/-- a place, or -1 -/
def plc (k n : Nat) : Int32 := if k < n then N k else -1
def lic (I : OId → Nat → Int32) (j k : Nat) : Int32 := if bb (I (10, j, k) 5) = 0 then 1 else 0
theorem find_ok {id : Int32} (hR : RF R) (hj : j < 8) (hn : I (4, j, 0) 7 = N n) (h7 : n ≤ 7) : evm (d + 2) 19 [aR (4, j, 0), aI id] (I, M, R, G) = some (.inl (some (aI (plc (fs (idB I j id) n) n))), (I, M, R, G)) := by
  rw [m19]
  have hs : ∀ k, k < n → ev (evm (d + 1)) 19 2 [some (aR (4, j, 0)), some (aI id), some (aI (N k))] [] [] (I, M, R, G) = if idB I j id k = true then some (.inl (some (aI (N k))), (I, M, R, G)) else ev (evm (d + 1)) 19 2 [some (aR (4, j, 0)), some (aI id), some (aI (N (k + 1)))] [] [] (I, M, R, G) := by
    intro k hk
    rw [s19_2]
    simp only [m19, s19_0, s19_1, s19_3, s19_4, s19_7, s19_10, s19_11, s19_12, s19_15, s19_18, s19_19, s19_22, s19_23, s19_24, s19_27, s19_30, s19_31, hn, N_ge hk (by omega), if_false, at_N hR hj (show k < 7 by omega), ck_v, Option.toList, List.cons_append, List.nil_append, kil_nil, N_1, idB, decide_eq_true_eq]
  have h0 := iter_fs (f := fun k => ev (evm (d + 1)) 19 2 [some (aR (4, j, 0)), some (aI id), some (aI (N k))] [] [] (I, M, R, G)) hs
  have hf : ev (evm (d + 1)) 19 2 [some (aR (4, j, 0)), some (aI id), some (aI (N n))] [] [] (I, M, R, G) = some (.inl (some (aI (-1))), (I, M, R, G)) := by
    rw [s19_2]
    simp only [m19, s19_0, s19_1, s19_3, s19_4, s19_7, s19_10, s19_11, s19_12, s19_15, s19_18, s19_19, s19_22, s19_23, s19_24, s19_27, s19_30, s19_31, hn, N_ge1 (Nat.le_refl n) (by omega), if_true]
  simp only [s19_0, s19_1, kil_nil]
  refine h0.trans ?_
  rw [hf, plc]
  split <;> rfl
theorem countLicensed_ok (hR : RF R) (hj : j < 8) (hn : I (4, j, 0) 7 = N n) (h7 : n ≤ 7) : evm (d + 2) 16 [aR (4, j, 0)] (I, M, R, G) = some (.inl (some (aI (sm (lic I j) n))), (I, M, R, G)) := by
  rw [m16]
  have hs : ∀ k, k < n → ev (evm (d + 1)) 16 4 [some (aR (4, j, 0)), some (aI (sm (lic I j) k)), some (aI (N k))] [] [] (I, M, R, G) = ev (evm (d + 1)) 16 4 [some (aR (4, j, 0)), some (aI (sm (lic I j) (k + 1))), some (aI (N (k + 1)))] [] [] (I, M, R, G) := by
    intro k hk
    rw [s16_4, sm_s, lic]
    simp only [m16, s16_0, s16_1, s16_2, s16_3, s16_5, s16_6, s16_9, s16_12, s16_13, s16_14, s16_15, s16_18, s16_21, s16_24, s16_25, s16_28, s16_29, s16_30, s16_31, s16_34, s16_37, s16_38, hn, N_ge hk (by omega), if_false, at_N hR hj (show k < 7 by omega), ck_v, Option.toList, List.cons_append, List.nil_append, kil_nil, N_1]
    split <;> rfl
  have h0 := iter (f := fun k => ev (evm (d + 1)) 16 4 [some (aR (4, j, 0)), some (aI (sm (lic I j) k)), some (aI (N k))] [] [] (I, M, R, G)) hs
  have hf : ev (evm (d + 1)) 16 4 [some (aR (4, j, 0)), some (aI (sm (lic I j) n)), some (aI (N n))] [] [] (I, M, R, G) = some (.inl (some (aI (sm (lic I j) n))), (I, M, R, G)) := by
    rw [s16_4]
    simp only [m16, s16_0, s16_1, s16_2, s16_3, s16_5, s16_6, s16_9, s16_12, s16_13, s16_14, s16_15, s16_18, s16_21, s16_24, s16_25, s16_28, s16_29, s16_30, s16_31, s16_34, s16_37, s16_38, hn, N_ge1 (Nat.le_refl n) (by omega), if_true]
  simp only [s16_0, s16_1, s16_2, s16_3, kil_nil]
  exact h0.trans hf
end BOOKS2
