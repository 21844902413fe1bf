/-! THE METHODS' MEANING: the class's state, what is kept -/
def crO (o : OId) : Prop := (∃ j, j < 8 ∧ inBk j o) ∨ o = (5, 0, 0) ∨ o = (11, 0, 0)
/-- the ring's place of the i-th of what is kept, the newest first -/
def rgp (p i : Nat) : Nat := (p + 5 - i) % 6
def CR (I : OId → Nat → Int32) (B : Bk) (hs : List Bk) (sn : Option Bk) : Prop :=
  BA I 0 B ∧ hs.length ≤ 6 ∧ (∃ p, p < 6 ∧ I (5, 0, 0) 1 = N p ∧ I (5, 0, 0) 2 = N hs.length ∧ ∀ i b, hs[i]? = some b → BA I (rgp p i + 1) b) ∧ bb (I (11, 0, 0) 3) = (if sn.isSome = true then 1 else 0) ∧ ∀ s, sn = some s → BA I 7 s
/-- nothing else has changed -/
def FB (I I' : OId → Nat → Int32) : Prop := ∀ o, ¬ crO o → I' o = I o
def kph (B : Bk) (hs : List Bk) : List Bk := (B :: hs).take 6
theorem FB.rf {I : OId → Nat → Int32} : FB I I := fun _ _ => rfl
theorem FB.tr {I I' I'' : OId → Nat → Int32} (h : FB I I') (h' : FB I' I'') : FB I I'' := fun o ho => (h' o ho).trans (h o ho)
theorem FB.st {I I' : OId → Nat → Int32} (h : FB I I') {o : OId} {f : Nat} {x : Int32} (ho : crO o) : FB I (setI I' o f x) := fun q hq => by
  rw [setI_ne (by intro e; subst e; exact hq ho)]
  exact h q hq
theorem Fr0.fb {I I' : OId → Nat → Int32} (h : Fr0 I I') : FB I I' := fun o ho => h o (fun q => ho (.inl ⟨0, by decide, q⟩))
theorem crO_b {j : Nat} {o : OId} (hj : j < 8) (h : inBk j o) : crO o := .inl ⟨j, hj, h⟩
section CRS
variable {d : Nat} {I I' : OId → Nat → Int32} {M R : OId → Nat → AV} {G : SG} {B B' : Bk} {hs : List Bk} {sn : Option Bk}
theorem rgp_lt (p i : Nat) : rgp p i < 6 := Nat.mod_lt _ (by decide)
theorem CR.fr (h : CR I B hs sn) (hf : ∀ o, crO o → I' o = I o) : CR I' B hs sn := by
  obtain ⟨hB, hl, ⟨p, hp, h1, h2, hh⟩, hs9, hss⟩ := h
  refine ⟨hB.fr (fun o ho => hf o (crO_b (by decide) ho)), hl, ⟨p, hp, ?_, ?_, ?_⟩, ?_, ?_⟩
  · rw [hf (5, 0, 0) (.inr (.inl rfl))]; exact h1
  · rw [hf (5, 0, 0) (.inr (.inl rfl))]; exact h2
  · intro i b hb
    exact (hh i b hb).fr (fun o ho => hf o (crO_b (by have := rgp_lt p i; omega) ho))
  · rw [hf (11, 0, 0) (.inr (.inr rfl))]; exact hs9
  · intro s hs
    exact (hss s hs).fr (fun o ho => hf o (crO_b (by decide) ho))
theorem inBk_ne {j i : Nat} {o : OId} (h : inBk j o) (hne : j ≠ i) : ¬ inBk i o := fun q => hne (h.1.symm.trans q.1)
theorem n5 {j : Nat} : ¬ inBk j (5, 0, 0) := fun q => by have := q.2; simp at this
theorem n11 {j : Nat} : ¬ inBk j (11, 0, 0) := fun q => by have := q.2; simp at this
theorem CR.mod (h : CR I B hs sn) (hf : Fr0 I I') (hb : BA I' 0 B') : CR I' B' hs sn := by
  obtain ⟨hB, hl, ⟨p, hp, h1, h2, hh⟩, hs9, hss⟩ := h
  refine ⟨hb, hl, ⟨p, hp, ?_, ?_, ?_⟩, ?_, ?_⟩
  · rw [hf (5, 0, 0) n5]; exact h1
  · rw [hf (5, 0, 0) n5]; exact h2
  · intro i b hb
    exact (hh i b hb).fr (fun o ho => hf o (inBk_ne ho (by omega)))
  · rw [hf (11, 0, 0) n11]; exact hs9
  · intro s hs
    exact (hss s hs).fr (fun o ho => hf o (inBk_ne ho (by decide)))
theorem set5_fr {f : Nat} {x : Int32} {o : OId} {j : Nat} (h : inBk j o) : setI I (5, 0, 0) f x o = I o := setI_ne (by rintro rfl; exact n5 h)
theorem set11_fr {f : Nat} {x : Int32} {o : OId} {j : Nat} (h : inBk j o) : setI I (11, 0, 0) f x o = I o := setI_ne (by rintro rfl; exact n11 h)
theorem CR.keep (hR : RF R) (h : CR I B hs sn) : ∃ I', evm (d + 3) 59 [aR (5, 0, 0), aR (4, 0, 0)] (I, M, R, G) = some (.inl none, (I', M, R, G)) ∧ CR I' B (kph B hs) sn ∧ FB I I' := by
  obtain ⟨hB, hl, ⟨p, hp, h1, h2, hh⟩, hs9, hss⟩ := h
  have e5 : ∀ f, kpI I p hs.length (vn B.1) (5, 0, 0) f = if f = 2 then N (if hs.length < 6 then hs.length + 1 else 6) else if f = 1 then N (rnx p) else I (5, 0, 0) f := fun f => by
    unfold kpI
    rw [setI_at, setI_at, tk4_fr n5]
  have eb : ∀ j, ∀ o, inBk j o → kpI I p hs.length (vn B.1) o = tk4 I (p + 1) 0 (vn B.1) o := fun j o ho => by
    unfold kpI
    rw [set5_fr ho, set5_fr ho]
  have e11 : kpI I p hs.length (vn B.1) (11, 0, 0) = I (11, 0, 0) := by
    unfold kpI
    rw [setI_ne (by simp), setI_ne (by simp), tk4_fr n11]
  have hother : ∀ j b, j ≠ p + 1 → BA I j b → BA (kpI I p hs.length (vn B.1)) j b := fun j b hj hb => hb.fr (fun o ho => by
    rw [eb j o ho, tk4_fr (inBk_ne ho hj)])
  have hnew : BA (kpI I p hs.length (vn B.1)) (p + 1) B := (tk4_ba (j := p + 1) (show 0 ≠ p + 1 by omega) hB rfl).fr (fun o ho => eb (p + 1) o ho)
  have hlen : (kph B hs).length = if hs.length < 6 then hs.length + 1 else 6 := by
    unfold kph
    rw [List.length_take, List.length_cons]
    split <;> omega
  refine ⟨kpI I p hs.length (vn B.1), keep_ok hR hp hl h1 h2 hB.1.2.1 hB.1.2.2.1, ⟨hother 0 B (by omega) hB, ?_, ⟨rnx p, ?_, ?_, ?_, ?_⟩, ?_, ?_⟩, ?_⟩
  · rw [hlen]; split <;> omega
  · unfold rnx; split <;> omega
  · rw [e5]; simp
  · rw [e5, hlen]; simp
  · intro i b hb
    have hi : i < 6 := by
      rcases Nat.lt_or_ge i 6 with q | q
      · exact q
      · rw [List.getElem?_eq_none (by rw [hlen]; split <;> omega)] at hb
        cases hb
    have hb' : (B :: hs)[i]? = some b := by
      unfold kph at hb
      rwa [List.getElem?_take_of_lt hi] at hb
    cases i with
    | zero =>
      have e : rgp (rnx p) 0 + 1 = p + 1 := by unfold rgp rnx; split <;> omega
      rw [List.getElem?_cons_zero] at hb'
      cases hb'
      rw [e]
      exact hnew
    | succ i =>
      have e : rgp (rnx p) (i + 1) = rgp p i := by unfold rgp rnx; split <;> omega
      have e' : rgp p i ≠ p := by unfold rgp; omega
      rw [List.getElem?_cons_succ] at hb'
      rw [e]
      exact hother _ _ (by omega) (hh i b hb')
  · rw [e11]; exact hs9
  · intro s hs
    exact hother 7 s (by omega) (hss s hs)
  · intro o ho
    unfold kpI
    rw [setI_ne (by rintro rfl; exact ho (.inr (.inl rfl))), setI_ne (by rintro rfl; exact ho (.inr (.inl rfl))), tk4_fr (fun q => ho (crO_b (by omega) q))]
theorem CR.undo {b : Bk} (hR : RF R) (h : CR I B (b :: hs) sn) : ∃ I', evm (d + 4) 209 [aR (11, 0, 0)] (I, M, R, G) = some (.inl (some (aI (N hs.length))), (I', M, R, G)) ∧ CR I' b hs sn ∧ FB I I' := by
  obtain ⟨hB, hl, ⟨p, hp, h1, h2, hh⟩, hs9, hss⟩ := h
  rw [List.length_cons] at hl h2
  have er : rgp p 0 = rpv p := by unfold rgp rpv; split <;> omega
  have hr6 : rpv p < 6 := by unfold rpv; split <;> omega
  have hb0 : BA I (rpv p + 1) b := er ▸ hh 0 b rfl
  have e5 : ∀ f, gbI I p (hs.length + 1) (vn b.1) (5, 0, 0) f = if f = 2 then N hs.length else if f = 1 then N (rpv p) else I (5, 0, 0) f := fun f => by
    unfold gbI
    rw [tk4_fr n5, setI_at, setI_at]
    rfl
  have eb : ∀ j, j ≠ 0 → ∀ o, inBk j o → gbI I p (hs.length + 1) (vn b.1) o = I o := fun j hj o ho => by
    unfold gbI
    rw [tk4_fr (inBk_ne ho hj), set5_fr ho, set5_fr ho]
  have e11 : gbI I p (hs.length + 1) (vn b.1) (11, 0, 0) = I (11, 0, 0) := by
    unfold gbI
    rw [tk4_fr n11, setI_ne (by simp), setI_ne (by simp)]
  have hnew : BA (gbI I p (hs.length + 1) (vn b.1)) 0 b := tk4_ba (by omega) (hb0.fr (fun o ho => by rw [set5_fr ho, set5_fr ho])) rfl
  have hu := undo_ok (d := d) (M := M) (G := G) hR hp hl (Nat.succ_pos _) h1 h2 hb0.1.2.1 hb0.1.2.2.1
  refine ⟨_, hu, ⟨hnew, by omega, ⟨rpv p, hr6, ?_, ?_, ?_⟩, ?_, ?_⟩, ?_⟩
  · rw [e5]; simp
  · rw [e5]; simp
  · intro i b' hb'
    have hi : i < hs.length := by
      rcases Nat.lt_or_ge i hs.length with q | q
      · exact q
      · rw [List.getElem?_eq_none q] at hb'
        cases hb'
    have e : rgp (rpv p) i = rgp p (i + 1) := by unfold rgp rpv; split <;> omega
    rw [e]
    exact (hh (i + 1) b' (by rw [List.getElem?_cons_succ]; exact hb')).fr (fun o ho => eb _ (by omega) o ho)
  · rw [e11]; exact hs9
  · intro s hs
    exact (hss s hs).fr (fun o ho => eb 7 (by decide) o ho)
  · intro o ho
    unfold gbI
    rw [tk4_fr (fun q => ho (crO_b (by decide) q)), setI_ne (by rintro rfl; exact ho (.inr (.inl rfl))), setI_ne (by rintro rfl; exact ho (.inr (.inl rfl)))]
theorem undo_no9 (hR : RF R) (h2 : I (5, 0, 0) 2 = 0) : evm (d + 1) 209 [aR (11, 0, 0)] (I, M, R, G) = Ex 1 (I, M, R, G) := undo_no hR h2
theorem CR.undo_no (hR : RF R) (h : CR I B [] sn) : evm (d + 1) 209 [aR (11, 0, 0)] (I, M, R, G) = Ex 1 (I, M, R, G) := by
  obtain ⟨hB, hl, ⟨p, hp, h1, h2, hh⟩, hs9, hss⟩ := h
  exact undo_no9 hR h2
theorem CR.save (hR : RF R) (h : CR I B hs sn) : ∃ I', evm (d + 3) 52 [aR (11, 0, 0)] (I, M, R, G) = some (.inl (some (aI (N (vn B.1)))), (I', M, R, G)) ∧ CR I' B hs (some B) ∧ FB I I' := by
  obtain ⟨hB, hl, ⟨p, hp, h1, h2, hh⟩, hs9, hss⟩ := h
  have hoth : ∀ j b, j ≠ 7 → BA I j b → BA (setI (tk4 I 7 0 (vn B.1)) (11, 0, 0) 3 1) j b := fun j b hj hb => hb.fr (fun o ho => by rw [set11_fr ho, tk4_fr (inBk_ne ho hj)])
  have e5 : setI (tk4 I 7 0 (vn B.1)) (11, 0, 0) 3 1 (5, 0, 0) = I (5, 0, 0) := by rw [setI_ne (by simp), tk4_fr n5]
  refine ⟨_, save_ok hR hB.1.2.1 hB.1.2.2.1, ⟨hoth 0 B (by decide) hB, hl, ⟨p, hp, ?_, ?_, ?_⟩, ?_, ?_⟩, ?_⟩
  · rw [e5]; exact h1
  · rw [e5]; exact h2
  · intro i b hb
    exact hoth _ _ (by have := rgp_lt p i; omega) (hh i b hb)
  · rw [setI_at, if_pos rfl]; rfl
  · intro s hs
    cases hs
    exact (tk4_ba (j := 7) (by decide) hB rfl).fr (fun o ho => set11_fr ho)
  · intro o ho
    rw [setI_ne (by rintro rfl; exact ho (.inr (.inr rfl))), tk4_fr (fun q => ho (crO_b (by decide) q))]
theorem CR.restore {s : Bk} (hR : RF R) (h : CR I B hs (some s)) : ∃ I', evm (d + 3) 212 [aR (11, 0, 0)] (I, M, R, G) = some (.inl (some (aI (N (vn s.1)))), (I', M, R, G)) ∧ CR I' s [] (some s) ∧ FB I I' := by
  obtain ⟨hB, hl, ⟨p, hp, h1, h2, hh⟩, hs9, hss⟩ := h
  have h7 := hss s rfl
  refine ⟨_, restore_ok hR h7.1.2.1 h7.1.2.2.1 hs9, ⟨?_, by decide, ⟨p, hp, ?_, ?_, ?_⟩, ?_, ?_⟩, ?_⟩
  · exact (tk4_ba (j := 0) (by decide) h7 rfl).fr (fun o ho => set5_fr ho)
  · rw [setI_at, if_neg (by decide), tk4_fr n5]; exact h1
  · rw [setI_at, if_pos rfl]; rfl
  · intro i b hb
    cases hb
  · rw [setI_ne (by simp), tk4_fr n11]; exact hs9
  · intro s' hs'
    cases hs'
    exact h7.fr (fun o ho => by rw [set5_fr ho, tk4_fr (inBk_ne ho (by decide))])
  · intro o ho
    rw [setI_ne (by rintro rfl; exact ho (.inr (.inl rfl))), tk4_fr (fun q => ho (crO_b (by decide) q))]
theorem restore_no9 (hR : RF R) (hs : bb (I (11, 0, 0) 3) = 0) : evm (d + 1) 212 [aR (11, 0, 0)] (I, M, R, G) = Ex 1 (I, M, R, G) := restore_no hR hs
theorem CR.restore_no (hR : RF R) (h : CR I B hs none) : evm (d + 1) 212 [aR (11, 0, 0)] (I, M, R, G) = Ex 1 (I, M, R, G) := by
  obtain ⟨hB, hl, hx, hs9, hss⟩ := h
  exact restore_no9 hR hs9
end CRS
