/-! SOUNDNESS: room is never given back -/
def ms (x : Cfg ⊕ Out) : SS := match x with
  | .inl g => g.2.2.2.2
  | .inr o => o.2
abbrev Mo (S S' : SS) : Prop := cel S ≤ cel S' ∧ slo S ≤ slo S'
theorem Mo.rf {S : SS} : Mo S S := ⟨Nat.le_refl _, Nat.le_refl _⟩
theorem Mo.tr {S S' S'' : SS} (h : Mo S S') (h' : Mo S' S'') : Mo S S'' := ⟨Nat.le_trans h.1 h'.1, Nat.le_trans h.2 h'.2⟩
theorem mkC_mo {S S' : SS} {c : Nat} {o : OId} (h : mkC S c = some (o, S')) : Mo S S' := by
  unfold mkC at h
  split at h
  · split at h
    · cases h
      exact ⟨Nat.le_succ _, Nat.le_add_right _ _⟩
    · cases h
  · split at h
    · cases h
      exact ⟨Nat.le_succ _, Nat.le_add_right _ _⟩
    · cases h
theorem mkA_mo {S S' : SS} {ty : FieldType} {n : Nat} {o : OId} (h : mkA S ty n = some (o, S')) : Mo S S' := by
  unfold mkA at h
  split at h
  · cases h
    exact ⟨Nat.le_succ _, Nat.le_add_right _ _⟩
  · split at h
    · split at h
      · cases h
        exact ⟨Nat.le_succ _, Nat.le_add_right _ _⟩
      · cases h
    · split at h
      · cases h
        exact ⟨Nat.le_succ _, Nat.le_add_right _ _⟩
      · cases h
theorem acp_mo {S S' : SS} {s d : OId} {sp dp n : Int32} (h : acp S s sp d dp n = some S') : Mo S S' := by
  unfold acp at h
  split at h
  · split at h
    · cases h
      exact Mo.rf
    · cases h
  · split at h
    · cases h
      exact Mo.rf
    · cases h
  · cases h
section MONO
variable {cm : Nat → List AV → SS → Option Out} {hs : List HE} {rt : Option FieldType} {pc : Nat} {L : List (Option AV)} {L2 : List (Nat × AV)} {St : List AV} {S : SS} {x : Cfg ⊕ Out} {r : Nat × Nat × Nat × Nat} {z : Int} {len : Nat}
theorem aft_mo {rest : List AV} {y : Option Out} (hy : ∀ o, y = some o → Mo S o.2) (h : aft hs pc L L2 rest y = some x) : Mo S (ms x) := by
  cases y with
  | none => cases h
  | some o =>
    obtain ⟨y, S'⟩ := o
    have h9 : Mo S S' := hy _ rfl
    cases y with
    | inl v =>
      replace h : nx (pc + 3) L L2 (v.toList ++ rest) S' = some x := h
      simp only [nx] at h
      cases h
      exact h9
    | inr E =>
      replace h : (match hnd hs pc E with | some (a, k) => if k < L.length then nx a (L.set k none) (kil L2 k) [] S' else none | none => if hs = [] then some (.inr (.inr E, S')) else none) = some x := h
      split at h
      · split at h
        · simp only [nx] at h
          cases h
          exact h9
        · cases h
      · split at h
        · cases h
          exact h9
        · cases h
theorem inv_mo (hc : ∀ M' as S o, M' < 311 → cm M' as S = some o → Mo S o.2) (h : inv cm hs pc r L L2 St S = some x) : Mo S (ms x) := by
  unfold inv at h
  split at h
  · split at h
    · rename_i hq
      exact aft_mo (fun o ho => hc _ _ _ _ hq.1 ho) h
    · cases h
  · split at h
    · rename_i hq
      exact aft_mo (fun o ho => hc _ _ _ _ hq.1 ho) h
    · cases h
  · split at h
    · split at h
      · cases h
      · simp only [nx] at h
        cases h
        exact Mo.rf
    · cases h
  · split at h
    · split at h
      · split at h
        · rename_i ha
          simp only [nx] at h
          cases h
          exact acp_mo ha
        · cases h
      · cases h
    · cases h
  · split at h
    · split at h
      · rename_i hm
        split at h
        · simp only [nx] at h
          cases h
          have h9 := mkA_mo hm
          exact h9
        · cases h
      · cases h
    · cases h
  · split at h
    · split at h
      · simp only [nx] at h
        cases h
        exact Mo.rf
      · cases h
    · cases h
  · split at h
    · split at h
      · simp only [nx] at h
        cases h
        exact Mo.rf
      · cases h
    · cases h
  · split at h
    · split at h
      · simp only [nx] at h
        cases h
        exact Mo.rf
      · cases h
    · cases h
  · split at h
    · rename_i hq
      exact aft_mo (fun o ho => hc _ _ _ _ hq.1 ho) h
    · cases h
set_option maxHeartbeats 4000000 in
theorem step_mo {q : Option IE} (hc : ∀ M' as S o, M' < 311 → cm M' as S = some o → Mo S o.2) (h : stepI cm hs rt pc q L L2 St S = some x) : Mo S (ms x) := by
  cases q with
  | none => cases h
  | some q =>
    obtain ⟨i, len, r, z⟩ := q
    cases i
    case invokestatic => exact inv_mo hc h
    case invokevirtual => exact inv_mo hc h
    case invokespecial => exact inv_mo hc h
    case new =>
      replace h : (match r.2.2.1 with | 0 => (match mkC S r.1 with | some (o, S') => nx (pc + 3) L L2 (aR o :: St) S' | none => none) | 1 => if hs = [] ∧ St.length ≤ 4 then some (.inr (.inr (exN r.1), bump S 1 6)) else none | _ => none) = some x := h
      split at h
      · split at h
        · rename_i hm
          simp only [nx] at h
          cases h
          exact mkC_mo hm
        · cases h
      · split at h
        · cases h
          exact ⟨Nat.le_add_right _ _, Nat.le_add_right _ _⟩
        · cases h
      · cases h
    case newarray t =>
      simp only [stepI] at h
      split at h
      · split at h
        · cases h
        · split at h
          · rename_i hm
            simp only [nx] at h
            cases h
            exact mkA_mo hm
          · cases h
      · cases h
    case anewarray =>
      simp only [stepI] at h
      split at h
      · split at h
        · cases h
        · split at h
          · rename_i hm
            simp only [nx] at h
            cases h
            exact mkA_mo hm
          · cases h
      · cases h
    all_goals
      simp only [stepI, nx, st1, st2, done] at h
      try (repeat' split at h)
      all_goals first
        | (cases h; done)
        | (cases h; exact Mo.rf)
theorem run_mo {M : Nat} (hc : ∀ M' as S o, M' < 311 → cm M' as S = some o → Mo S o.2) : ∀ (n : Nat) (g : Cfg) (o : Out), run cm M n g = some o → Mo g.2.2.2.2 o.2
  | 0, _, _, h => by cases h
  | n + 1, g, o, h => by
    rw [run_s] at h
    cases hs : stepE cm M g with
    | none => rw [hs] at h; cases h
    | some x =>
      rw [hs] at h
      have h1 := step_mo hc hs
      cases x with
      | inr o' => cases h; exact h1
      | inl g' => exact h1.tr (run_mo hc n g' o h)
end MONO
