/-! SOUNDNESS: the dispatcher, static calls of a nest mate -/
section STEP24
variable {K : KX} {M : Nat} {p : Program} {l : Launch} {e : Env} {R : Room} {s : State} {m : MethodId} {args : Array Value} {below : List Frame} {meth : Method} {c : Code} {Q : State → Prop} {S0 : SS} {ρ0 : OId → Nat}
variable {L : List (Option AV)} {L2 : List (Nat × AV)} {St : List AV} {S S' : SS} {pc i q1 q2 q4 zz d : Nat} {cm : Nat → List AV → SS → Option Out} {g' : Cfg} {o9 : Out}
theorem sd_k1 (C0 : Cx K M p l s m meth c) (ih : IH K l d cm) (hd : decode (mtC M) pc = .ok (.invokestatic i, 3)) (h : inv cm [] pc (q1, q2, 1, q4) L L2 St S = some (.inl g')) (hh : hhT.getD q1 [] = []) (hlp : cP (mtY M).cls i (q1, q2, 1, q4) zz) (hR : d + 11 ≤ R.frames ∧ 64 * d + 264 ≤ R.locals) (hcells : cel g'.2.2.2.2 - cel S0 ≤ R.cells) (hslots : slo g'.2.2.2.2 - slo S0 ≤ R.slots) (k : Gd K M p l e R s m args below meth c Q S0 ρ0 g') : Gd K M p l e R s m args below meth c Q S0 ρ0 (pc, L, L2, St, S) := by
  replace h : (if q1 < 311 ∧ q2 ≤ St.length ∧ St.length ≤ q2 + 4 then aft [] pc L L2 (St.drop q2) (cm q1 (St.take q2).reverse S) else none) = some (.inl g') := h
  split at h
  · rename_i hq
    obtain ⟨v, S', hc, rfl⟩ := aft_l h
    obtain ⟨hm, hcm⟩ := ih _ _ _ _ hq.1 hc
    exact g_k1 C0 hd hq.1 hh hlp.1 hlp.2.1 hlp.2.2 hq.2.1 hq.2.2 hR hcm hm hcells hslots (fun v' hv' => by cases hv'; exact k) (fun E hE => by cases hE)
  · cases h
theorem se_k1 (C0 : Cx K M p l s m meth c) (ih : IH K l d cm) (hd : decode (mtC M) pc = .ok (.invokestatic i, 3)) (h : inv cm [] pc (q1, q2, 1, q4) L L2 St S = some (.inr o9)) (hh : hhT.getD q1 [] = []) (hlp : cP (mtY M).cls i (q1, q2, 1, q4) zz) (hR : d + 11 ≤ R.frames ∧ 64 * d + 264 ≤ R.locals) (hcells : cel o9.2 - cel S0 ≤ R.cells) (hslots : slo o9.2 - slo S0 ≤ R.slots) (hnt : ∀ y ∈ c.exceptionTable.toList, False) (hlk : meth.locks = false) : Gd K M p l e R s m args below meth c (RQ K below ρ0 S0 o9 args s) S0 ρ0 (pc, L, L2, St, S) := by
  replace h : (if q1 < 311 ∧ q2 ≤ St.length ∧ St.length ≤ q2 + 4 then aft [] pc L L2 (St.drop q2) (cm q1 (St.take q2).reverse S) else none) = some (.inr o9) := h
  split at h
  · rename_i hq
    obtain ⟨E, S', hc, rfl⟩ := aft_r h
    obtain ⟨hm, hcm⟩ := ih _ _ _ _ hq.1 hc
    exact g_k1 C0 hd hq.1 hh hlp.1 hlp.2.1 hlp.2.2 hq.2.1 hq.2.2 hR hcm hm hcells hslots (fun v' hv' => by cases hv') (fun E' hE => by cases hE; exact g_out hnt hlk)
  · cases h
end STEP24
