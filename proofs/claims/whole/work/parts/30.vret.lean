/-! SOUNDNESS: a return whose stack needn't be empty -/
section STEP19
variable {K : KX} {M : Nat} {p : Program} {l : Launch} {e : Env} {R : Room} {s : State} {m : MethodId} {args : Array Value} {below : List Frame} {meth : Method} {c : Code} {Q : State → Prop} {S0 : SS} {ρ0 ρ' : OId → Nat} {H : Heap} {locs : List Loc} {cells slots : Nat}
variable {L : List (Option AV)} {L2 : List (Nat × AV)} {St : List AV} {S S' : SS} {pc len : Nat} {z : Int} {r : Nat × Nat × Nat × Nat} {cm : Nat → List AV → SS → Option Out} {hs : List HE} {rt : Option FieldType} {o9 : Out}
theorem vret_any {cc : ByteArray} {Qc : Array Value → State → Outcome → State → Prop} {free : Addr → Prop} {rest : List Value} {ls : Array Slot} (hexec : p.tables.exec = Jvm.exec) (hb : c.code = cc) (hr : meth.sig.returnType = none)
    (hq : ∀ t : State, t.heap = H → s.WarmedH t.vm → Qc args s (.returned none) t) (hf : ∀ q ∈ locs, free q.base) (hdg : decode cc pc = .ok (.return_, 1)) (hlocks : meth.locks = false) : W p l e R s m args below meth c H locs cells slots (MQ below Qc args s cells slots free) (F0 m pc ls rest) := by
  intro T hT X
  obtain ⟨fs, hret, hrun, hended, hW, hframe⟩ := X.leave (v := none) (fun _ => rfl)
  have hmeth' : T.vm.method? m = some meth := X.method'
  refine ⟨T.setFrames fs, ?_, .returned none, hrun, hended, hq _ hT hW, locs, ⟨⟨_, rfl⟩, hW, hframe⟩, hf⟩
  jvm_step X.here [X.here.top, hexec, hb, hdg, hmeth', hr]
  (try refine ⟨rfl, ?_⟩); (try refine ⟨rfl, ?_⟩)
  first | (intro acts; rw [hret _ acts rfl rfl rfl]) | rw [hret _ _ rfl rfl rfl]
  exact Steps.refl _
theorem se_return (C0 : Cx K M p l s m meth c) (hr : meth.sig.returnType = mtR M) (hlk : meth.locks = false) (hd : decode (mtC M) pc = .ok (.return_, len)) (hl : len = iln .return_ len) (h : stepI cm hs (mtR M) pc (some (.return_, len, r, z)) L L2 St S = some (.inr o9)) : Gd K M p l e R s m args below meth c (RQ K below ρ0 S0 o9 args s) S0 ρ0 (pc, L, L2, St, S) := by
  have hn : len = 1 := hl
  subst hn
  simp only [stepI] at h
  split at h
  · rename_i ht
    simp only [done] at h
    cases h
    intro ρ H locs ls F
    exact vx_ret (vret_any C0.1 C0.2.1 (hr.trans ht) (fun t h _ => qc_ok (v := none) F (fun y hy => by cases hy) h) F.1.2.2.1.2.2 hd hlk)
  · cases h
end STEP19
