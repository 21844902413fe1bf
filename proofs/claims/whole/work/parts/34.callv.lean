/-! SOUNDNESS: the dispatcher, calls with a receiver (methods without handlers) -/
section STEP23
variable {K : KX} {M : Nat} {p : Program} {l : Launch} {e : Env} {R : Room} {s : State} {m : MethodId} {args : Array Value} {below : List Frame} {meth : Method} {c : Code} {Q : State → Prop} {S0 : SS} {ρ0 : OId → Nat}
variable {L : List (Option AV)} {L2 : List (Nat × AV)} {St : List AV} {S S' : SS} {pc i q1 q2 q4 k9 zz d : Nat} {hs : List HE} {cm : Nat → List AV → SS → Option Out} {g' : Cfg} {o9 : Out} {ins : Instr}
theorem inv_kv (hk : k9 = 2 ∨ k9 = 3 ∨ k9 = 4 ∨ k9 = 8 ∨ k9 = 5 ∨ k9 = 6 ∨ k9 = 7) : inv cm hs pc (q1, q2, k9, q4) L L2 St S = if q1 < 311 ∧ k9 < 9 ∧ q2 + 1 ≤ St.length ∧ St.length ≤ q2 + 5 ∧ rcv q4 (St.getD q2 aN) = true then aft hs pc L L2 (St.drop (q2 + 1)) (cm q1 (St.take (q2 + 1)).reverse S) else none := by
  rcases hk with rfl | rfl | rfl | rfl | rfl | rfl | rfl <;> rfl
theorem rcv_eq {v : AV} (h : rcv q4 v = true) : ∃ o, v = .inr o ∧ kOf o = .inl q4 := by
  unfold rcv at h
  split at h
  · exact ⟨_, rfl, of_decide_eq_true h⟩
  · cases h
theorem kv_or (h : ins = .invokevirtual i ∧ (k9 = 2 ∨ k9 = 3 ∨ k9 = 4 ∨ k9 = 8) ∨ ins = .invokespecial i ∧ (k9 = 5 ∨ k9 = 6 ∨ k9 = 7)) : k9 = 2 ∨ k9 = 3 ∨ k9 = 4 ∨ k9 = 8 ∨ k9 = 5 ∨ k9 = 6 ∨ k9 = 7 := by
  rcases h with ⟨-, h⟩ | ⟨-, h⟩ <;> omega
theorem sd_kv (C0 : Cx K M p l s m meth c) (ih : IH K l d cm) (hins : ins = .invokevirtual i ∧ (k9 = 2 ∨ k9 = 3 ∨ k9 = 4 ∨ k9 = 8) ∨ ins = .invokespecial i ∧ (k9 = 5 ∨ k9 = 6 ∨ k9 = 7)) (hd : decode (mtC M) pc = .ok (ins, 3)) (h : inv cm [] pc (q1, q2, k9, q4) L L2 St S = some (.inl g')) (hh : hhT.getD q1 [] = []) (ha : 0 < nfl q4) (hlp : cP (mtY M).cls i (q1, q2, k9, q4) zz) (hR : d + 11 ≤ R.frames ∧ 64 * d + 264 ≤ R.locals) (hcells : cel g'.2.2.2.2 - cel S0 ≤ R.cells) (hslots : slo g'.2.2.2.2 - slo S0 ≤ R.slots) (k : Gd K M p l e R s m args below meth c Q S0 ρ0 g') : Gd K M p l e R s m args below meth c Q S0 ρ0 (pc, L, L2, St, S) := by
  rw [inv_kv (kv_or hins)] at h
  split at h
  · rename_i hq
    obtain ⟨v, S', hc, rfl⟩ := aft_l h
    obtain ⟨hm, hcm⟩ := ih _ _ _ _ hq.1 hc
    obtain ⟨o, ho, hk⟩ := rcv_eq hq.2.2.2.2
    exact g_kv C0 hins hd hq.1 hh hlp hq.2.2.1 hq.2.2.2.1 ho hk ha hR hcm hm hcells hslots (fun v' hv' => by cases hv'; exact k) (fun E hE => by cases hE)
  · cases h
theorem se_kv (C0 : Cx K M p l s m meth c) (ih : IH K l d cm) (hins : ins = .invokevirtual i ∧ (k9 = 2 ∨ k9 = 3 ∨ k9 = 4 ∨ k9 = 8) ∨ ins = .invokespecial i ∧ (k9 = 5 ∨ k9 = 6 ∨ k9 = 7)) (hd : decode (mtC M) pc = .ok (ins, 3)) (h : inv cm [] pc (q1, q2, k9, q4) L L2 St S = some (.inr o9)) (hh : hhT.getD q1 [] = []) (ha : 0 < nfl q4) (hlp : cP (mtY M).cls i (q1, q2, k9, q4) zz) (hR : d + 11 ≤ R.frames ∧ 64 * d + 264 ≤ R.locals) (hcells : cel o9.2 - cel S0 ≤ R.cells) (hslots : slo o9.2 - slo S0 ≤ R.slots) (hnt : ∀ y ∈ c.exceptionTable.toList, False) (hlk : meth.locks = false) : Gd K M p l e R s m args below meth c (RQ K below ρ0 S0 o9 args s) S0 ρ0 (pc, L, L2, St, S) := by
  rw [inv_kv (kv_or hins)] at h
  split at h
  · rename_i hq
    obtain ⟨E, S', hc, rfl⟩ := aft_r h
    obtain ⟨hm, hcm⟩ := ih _ _ _ _ hq.1 hc
    obtain ⟨o, ho, hk⟩ := rcv_eq hq.2.2.2.2
    exact g_kv C0 hins hd hq.1 hh hlp hq.2.2.1 hq.2.2.2.1 ho hk ha hR hcm hm hcells hslots (fun v' hv' => by cases hv') (fun E' hE => by cases hE; exact g_out hnt hlk)
  · cases h
end STEP23
