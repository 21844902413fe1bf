/-! SOUNDNESS: the dispatcher, calls (methods without handlers) -/
section STEP22
variable {K : KX} {M : Nat} {p : Program} {l : Launch} {e : Env} {R : Room} {s : State} {m : MethodId} {args : Array Value} {below : List Frame} {meth : Method} {c : Code} {Q : State → Prop} {S0 : SS} {ρ0 : OId → Nat}
variable {L : List (Option AV)} {L2 : List (Nat × AV)} {St : List AV} {S S' : SS} {pc i q1 q2 q4 zz d : Nat} {cm : Nat → List AV → SS → Option Out} {g' : Cfg} {o9 : Out}
/-- what is known of the calls one level below -/
def IH (K : KX) (l : Launch) (d : Nat) (cm : Nat → List AV → SS → Option Out) : Prop := ∀ M' as S o9, M' < 311 → cm M' as S = some o9 → (cel S ≤ cel o9.2 ∧ slo S ≤ slo o9.2) ∧ CM K l d M' as S o9
theorem aft_l {rest : List AV} {x : Option Out} (h : aft [] pc L L2 rest x = some (.inl g')) : ∃ v S', x = some (.inl v, S') ∧ g' = (pc + 3, L, L2, v.toList ++ rest, S') := by
  cases x with
  | none => cases h
  | some o =>
    obtain ⟨y, S'⟩ := o
    cases y with
    | inl v =>
      replace h : nx (pc + 3) L L2 (v.toList ++ rest) S' = some (.inl g') := h
      simp only [nx] at h
      cases h
      exact ⟨v, S', rfl, rfl⟩
    | inr E =>
      replace h : (if ([] : List HE) = [] then some (Sum.inr (Sum.inr E, S')) else none) = some (.inl g') := h
      rw [if_pos rfl] at h
      cases h
theorem aft_r {rest : List AV} {x : Option Out} (h : aft [] pc L L2 rest x = some (.inr o9)) : ∃ E S', x = some (.inr E, S') ∧ o9 = (.inr E, S') := by
  cases x with
  | none => cases h
  | some o =>
    obtain ⟨y, S'⟩ := o
    cases y with
    | inl v =>
      replace h : nx (pc + 3) L L2 (v.toList ++ rest) S' = some (.inr o9) := h
      simp only [nx] at h
      cases h
    | inr E =>
      replace h : (if ([] : List HE) = [] then some (Sum.inr (Sum.inr E, S')) else none) = some (.inr o9) := h
      rw [if_pos rfl] at h
      cases h
      exact ⟨E, S', rfl, rfl⟩
theorem sd_k0 (C0 : Cx K M p l s m meth c) (ih : IH K l d cm) (hd : decode (mtC M) pc = .ok (.invokestatic i, 3)) (h : inv cm [] pc (q1, q2, 0, q4) L L2 St S = some (.inl g')) (hlp : cP (mtY M).cls i (q1, q2, 0, q4) zz) (hR : d + 11 ≤ R.frames ∧ 64 * d + 264 ≤ R.locals) (hcells : cel g'.2.2.2.2 - cel S0 ≤ R.cells) (hslots : slo g'.2.2.2.2 - slo S0 ≤ R.slots) (k : Gd K M p l e R s m args below meth c Q S0 ρ0 g') : Gd K M p l e R s m args below meth c Q S0 ρ0 (pc, L, L2, St, S) := by
  replace h : (if q1 < 311 ∧ q2 ≤ St.length ∧ St.length ≤ q2 + 4 then aft [] pc L L2 (St.drop q2) (cm q1 (St.take q2).reverse S) else none) = some (.inl g') := h
  split at h
  · rename_i hq
    obtain ⟨v, S', hc, rfl⟩ := aft_l h
    obtain ⟨hm, hcm⟩ := ih _ _ _ _ hq.1 hc
    exact g_k0 C0 hd hq.1 hlp.1 hlp.2.1 hlp.2.2 hq.2.1 hq.2.2 hR hcm hm hcells hslots (fun v' hv' => by cases hv'; exact k) (fun E hE => by cases hE)
  · cases h
theorem se_k0 (C0 : Cx K M p l s m meth c) (ih : IH K l d cm) (hd : decode (mtC M) pc = .ok (.invokestatic i, 3)) (h : inv cm [] pc (q1, q2, 0, q4) L L2 St S = some (.inr o9)) (hlp : cP (mtY M).cls i (q1, q2, 0, q4) zz) (hR : d + 11 ≤ R.frames ∧ 64 * d + 264 ≤ R.locals) (hcells : cel o9.2 - cel S0 ≤ R.cells) (hslots : slo o9.2 - slo S0 ≤ R.slots) (hnt : ∀ y ∈ c.exceptionTable.toList, False) (hlk : meth.locks = false) : Gd K M p l e R s m args below meth c (RQ K below ρ0 S0 o9 args s) S0 ρ0 (pc, L, L2, St, S) := by
  replace h : (if q1 < 311 ∧ q2 ≤ St.length ∧ St.length ≤ q2 + 4 then aft [] pc L L2 (St.drop q2) (cm q1 (St.take q2).reverse S) else none) = some (.inr o9) := h
  split at h
  · rename_i hq
    obtain ⟨E, S', hc, rfl⟩ := aft_r h
    obtain ⟨hm, hcm⟩ := ih _ _ _ _ hq.1 hc
    exact g_k0 C0 hd hq.1 hlp.1 hlp.2.1 hlp.2.2 hq.2.1 hq.2.2 hR hcm hm hcells hslots (fun v' hv' => by cases hv') (fun E' hE => by cases hE; exact g_out hnt hlk)
  · cases h
end STEP22
