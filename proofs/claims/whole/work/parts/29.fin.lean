/-! SOUNDNESS: the dispatcher, where a run ends -/
section STEP18
variable {K : KX} {M : Nat} {p : Program} {l : Launch} {e : Env} {R : Room} {s : State} {m : MethodId} {args : Array Value} {below : List Frame} {meth : Method} {c : Code} {Q : State → Prop} {S0 : SS} {ρ0 ρ' : OId → Nat}
variable {L : List (Option AV)} {L2 : List (Nat × AV)} {St : List AV} {S S' : SS} {pc len : Nat} {z : Int} {r : Nat × Nat × Nat × Nat} {cm : Nat → List AV → SS → Option Out} {hs : List HE} {rt : Option FieldType} {o9 : Out}
theorem se_ireturn (C0 : Cx K M p l s m meth c) (hr : meth.sig.returnType = mtR M) (hlk : meth.locks = false) (hd : decode (mtC M) pc = .ok (.ireturn, len)) (hl : len = iln .ireturn len) (h : stepI cm hs (mtR M) pc (some (.ireturn, len, r, z)) L L2 St S = some (.inr o9)) : Gd K M p l e R s m args below meth c (RQ K below ρ0 S0 o9 args s) S0 ρ0 (pc, L, L2, St, S) := by
  have hn : len = 1 := hl
  subst hn
  simp only [stepI] at h
  split at h
  · split at h
    · rename_i ht
      simp only [done] at h
      cases h
      exact g_ireturn C0 hr hlk hd ht
    · cases h
  · cases h
theorem se_lreturn (C0 : Cx K M p l s m meth c) (hr : meth.sig.returnType = mtR M) (hlk : meth.locks = false) (hd : decode (mtC M) pc = .ok (.lreturn, len)) (hl : len = iln .lreturn len) (h : stepI cm hs (mtR M) pc (some (.lreturn, len, r, z)) L L2 St S = some (.inr o9)) : Gd K M p l e R s m args below meth c (RQ K below ρ0 S0 o9 args s) S0 ρ0 (pc, L, L2, St, S) := by
  have hn : len = 1 := hl
  subst hn
  simp only [stepI] at h
  split at h
  · split at h
    · rename_i ht
      simp only [done] at h
      cases h
      exact g_lreturn C0 hr hlk hd ht
    · cases h
  · cases h
theorem se_freturn (C0 : Cx K M p l s m meth c) (hr : meth.sig.returnType = mtR M) (hlk : meth.locks = false) (hd : decode (mtC M) pc = .ok (.freturn, len)) (hl : len = iln .freturn len) (h : stepI cm hs (mtR M) pc (some (.freturn, len, r, z)) L L2 St S = some (.inr o9)) : Gd K M p l e R s m args below meth c (RQ K below ρ0 S0 o9 args s) S0 ρ0 (pc, L, L2, St, S) := by
  have hn : len = 1 := hl
  subst hn
  simp only [stepI] at h
  split at h
  · split at h
    · rename_i ht
      simp only [done] at h
      cases h
      exact g_freturn C0 hr hlk hd ht
    · cases h
  · cases h
theorem se_vreturn (C0 : Cx K M p l s m meth c) (hr : meth.sig.returnType = mtR M) (hlk : meth.locks = false) (hd : decode (mtC M) pc = .ok (.return_, len)) (hl : len = iln .return_ len) (h : stepI cm hs (mtR M) pc (some (.return_, len, r, z)) L L2 [] S = some (.inr o9)) : Gd K M p l e R s m args below meth c (RQ K below ρ0 S0 o9 args s) S0 ρ0 (pc, L, L2, [], S) := by
  have hn : len = 1 := hl
  subst hn
  simp only [stepI] at h
  split at h
  · rename_i ht
    simp only [done] at h
    cases h
    exact g_vreturn C0 hr hlk hd ht
  · cases h
theorem se_areturn (C0 : Cx K M p l s m meth c) (hr : meth.sig.returnType = mtR M) (hlk : meth.locks = false) (hd : decode (mtC M) pc = .ok (.areturn, len)) (hl : len = iln .areturn len) (h : stepI cm hs (mtR M) pc (some (.areturn, len, r, z)) L L2 St S = some (.inr o9)) (hrc : rchk (mtR M) (pc, (.areturn, len, r, z)) = true) : Gd K M p l e R s m args below meth c (RQ K below ρ0 S0 o9 args s) S0 ρ0 (pc, L, L2, St, S) := by
  have hn : len = 1 := hl
  subst hn
  have h9 : (match mtR M with | some t => refT t | none => false) = true := hrc
  cases hm : mtR M with
  | none => rw [hm] at h9; cases h9
  | some t =>
    rw [hm] at h9
    simp only [stepI] at h
    split at h
    · simp only [done] at h
      cases h
      exact g_areturn C0 hr hlk hd rfl hm h9
    · simp only [done] at h
      cases h
      exact g_areturn C0 hr hlk hd rfl hm h9
    · cases h
end STEP18
