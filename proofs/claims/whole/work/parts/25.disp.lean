/-! SOUNDNESS: an instruction of the small machine, dispatched to its row -/
theorem ldI_eq {L : List (Option AV)} {k : Nat} {x : Int32} (h : ldI L k = some x) : L[k]? = some (some (aI x)) := by
  unfold ldI at h
  split at h
  · rename_i hq
    cases h
    exact hq
  · cases h
theorem ldF_eq {L : List (Option AV)} {k : Nat} {x : UInt32} (h : ldF L k = some x) : L[k]? = some (some (aF x)) := by
  unfold ldF at h
  split at h
  · rename_i hq
    cases h
    exact hq
  · cases h
theorem ldL_eq {L2 : List (Nat × AV)} {k : Nat} {x : Int64} (h : ldL L2 k = some x) : L2.lookup k = some (aL x) := by
  unfold ldL at h
  split at h
  · rename_i hq
    cases h
    exact hq
  · cases h
theorem ldA_eq {L : List (Option AV)} {k : Nat} {x : AV} (h : ldA L k = some x) : (∃ o, x = aR o ∧ L[k]? = some (some (aR o))) ∨ (x = aN ∧ L[k]? = some (some aN)) := by
  unfold ldA at h
  split at h
  · rename_i o hq
    cases h
    exact Or.inl ⟨o, rfl, hq⟩
  · rename_i hq
    cases h
    exact Or.inr ⟨rfl, hq⟩
  · cases h
theorem tg_eq {pc t : Nat} {off : Int} (h : tg pc off = some t) : (pc : Int) + off = (t : Int) := by
  unfold tg at h
  split at h
  · cases h
  · cases h
    omega
section STEP14
variable {K : KX} {M : Nat} {p : Program} {l : Launch} {e : Env} {R : Room} {s : State} {m : MethodId} {args : Array Value} {below : List Frame} {meth : Method} {c : Code} {Q : State → Prop} {S0 : SS} {ρ0 ρ' : OId → Nat}
variable {L : List (Option AV)} {L2 : List (Nat × AV)} {St : List AV} {S S' : SS} {pc len : Nat} {z : Int} {r : Nat × Nat × Nat × Nat} {cm : Nat → List AV → SS → Option Out} {hs : List HE} {rt : Option FieldType} {g' : Cfg}

theorem sd_iadd (C0 : Cx K M p l s m meth c) (hd : decode (mtC M) pc = .ok (.iadd, len)) (hl : len = iln (.iadd) len) (h : stepI cm hs rt pc (some (.iadd, len, r, z)) L L2 St S = some (.inl g')) (k : Gd K M p l e R s m args below meth c Q S0 ρ0 g') : Gd K M p l e R s m args below meth c Q S0 ρ0 (pc, L, L2, St, S) := by
  have hn : len = 1 := hl
  subst hn
  simp only [stepI] at h
  split at h <;> first | (cases h; done) | (simp only [nx] at h; cases h; exact g_iadd C0 hd k)
theorem sd_isub (C0 : Cx K M p l s m meth c) (hd : decode (mtC M) pc = .ok (.isub, len)) (hl : len = iln (.isub) len) (h : stepI cm hs rt pc (some (.isub, len, r, z)) L L2 St S = some (.inl g')) (k : Gd K M p l e R s m args below meth c Q S0 ρ0 g') : Gd K M p l e R s m args below meth c Q S0 ρ0 (pc, L, L2, St, S) := by
  have hn : len = 1 := hl
  subst hn
  simp only [stepI] at h
  split at h <;> first | (cases h; done) | (simp only [nx] at h; cases h; exact g_isub C0 hd k)
theorem sd_imul (C0 : Cx K M p l s m meth c) (hd : decode (mtC M) pc = .ok (.imul, len)) (hl : len = iln (.imul) len) (h : stepI cm hs rt pc (some (.imul, len, r, z)) L L2 St S = some (.inl g')) (k : Gd K M p l e R s m args below meth c Q S0 ρ0 g') : Gd K M p l e R s m args below meth c Q S0 ρ0 (pc, L, L2, St, S) := by
  have hn : len = 1 := hl
  subst hn
  simp only [stepI] at h
  split at h <;> first | (cases h; done) | (simp only [nx] at h; cases h; exact g_imul C0 hd k)
theorem sd_iand (C0 : Cx K M p l s m meth c) (hd : decode (mtC M) pc = .ok (.iand, len)) (hl : len = iln (.iand) len) (h : stepI cm hs rt pc (some (.iand, len, r, z)) L L2 St S = some (.inl g')) (k : Gd K M p l e R s m args below meth c Q S0 ρ0 g') : Gd K M p l e R s m args below meth c Q S0 ρ0 (pc, L, L2, St, S) := by
  have hn : len = 1 := hl
  subst hn
  simp only [stepI] at h
  split at h <;> first | (cases h; done) | (simp only [nx] at h; cases h; exact g_iand C0 hd k)
theorem sd_ior (C0 : Cx K M p l s m meth c) (hd : decode (mtC M) pc = .ok (.ior, len)) (hl : len = iln (.ior) len) (h : stepI cm hs rt pc (some (.ior, len, r, z)) L L2 St S = some (.inl g')) (k : Gd K M p l e R s m args below meth c Q S0 ρ0 g') : Gd K M p l e R s m args below meth c Q S0 ρ0 (pc, L, L2, St, S) := by
  have hn : len = 1 := hl
  subst hn
  simp only [stepI] at h
  split at h <;> first | (cases h; done) | (simp only [nx] at h; cases h; exact g_ior C0 hd k)
theorem sd_ixor (C0 : Cx K M p l s m meth c) (hd : decode (mtC M) pc = .ok (.ixor, len)) (hl : len = iln (.ixor) len) (h : stepI cm hs rt pc (some (.ixor, len, r, z)) L L2 St S = some (.inl g')) (k : Gd K M p l e R s m args below meth c Q S0 ρ0 g') : Gd K M p l e R s m args below meth c Q S0 ρ0 (pc, L, L2, St, S) := by
  have hn : len = 1 := hl
  subst hn
  simp only [stepI] at h
  split at h <;> first | (cases h; done) | (simp only [nx] at h; cases h; exact g_ixor C0 hd k)
theorem sd_ishl (C0 : Cx K M p l s m meth c) (hd : decode (mtC M) pc = .ok (.ishl, len)) (hl : len = iln (.ishl) len) (h : stepI cm hs rt pc (some (.ishl, len, r, z)) L L2 St S = some (.inl g')) (k : Gd K M p l e R s m args below meth c Q S0 ρ0 g') : Gd K M p l e R s m args below meth c Q S0 ρ0 (pc, L, L2, St, S) := by
  have hn : len = 1 := hl
  subst hn
  simp only [stepI] at h
  split at h <;> first | (cases h; done) | (simp only [nx] at h; cases h; exact g_ishl C0 hd k)
theorem sd_ishr (C0 : Cx K M p l s m meth c) (hd : decode (mtC M) pc = .ok (.ishr, len)) (hl : len = iln (.ishr) len) (h : stepI cm hs rt pc (some (.ishr, len, r, z)) L L2 St S = some (.inl g')) (k : Gd K M p l e R s m args below meth c Q S0 ρ0 g') : Gd K M p l e R s m args below meth c Q S0 ρ0 (pc, L, L2, St, S) := by
  have hn : len = 1 := hl
  subst hn
  simp only [stepI] at h
  split at h <;> first | (cases h; done) | (simp only [nx] at h; cases h; exact g_ishr C0 hd k)
theorem sd_ladd (C0 : Cx K M p l s m meth c) (hd : decode (mtC M) pc = .ok (.ladd, len)) (hl : len = iln (.ladd) len) (h : stepI cm hs rt pc (some (.ladd, len, r, z)) L L2 St S = some (.inl g')) (k : Gd K M p l e R s m args below meth c Q S0 ρ0 g') : Gd K M p l e R s m args below meth c Q S0 ρ0 (pc, L, L2, St, S) := by
  have hn : len = 1 := hl
  subst hn
  simp only [stepI] at h
  split at h <;> first | (cases h; done) | (simp only [nx] at h; cases h; exact g_ladd C0 hd k)
theorem sd_lsub (C0 : Cx K M p l s m meth c) (hd : decode (mtC M) pc = .ok (.lsub, len)) (hl : len = iln (.lsub) len) (h : stepI cm hs rt pc (some (.lsub, len, r, z)) L L2 St S = some (.inl g')) (k : Gd K M p l e R s m args below meth c Q S0 ρ0 g') : Gd K M p l e R s m args below meth c Q S0 ρ0 (pc, L, L2, St, S) := by
  have hn : len = 1 := hl
  subst hn
  simp only [stepI] at h
  split at h <;> first | (cases h; done) | (simp only [nx] at h; cases h; exact g_lsub C0 hd k)
theorem sd_land (C0 : Cx K M p l s m meth c) (hd : decode (mtC M) pc = .ok (.land, len)) (hl : len = iln (.land) len) (h : stepI cm hs rt pc (some (.land, len, r, z)) L L2 St S = some (.inl g')) (k : Gd K M p l e R s m args below meth c Q S0 ρ0 g') : Gd K M p l e R s m args below meth c Q S0 ρ0 (pc, L, L2, St, S) := by
  have hn : len = 1 := hl
  subst hn
  simp only [stepI] at h
  split at h <;> first | (cases h; done) | (simp only [nx] at h; cases h; exact g_land C0 hd k)
theorem sd_lor (C0 : Cx K M p l s m meth c) (hd : decode (mtC M) pc = .ok (.lor, len)) (hl : len = iln (.lor) len) (h : stepI cm hs rt pc (some (.lor, len, r, z)) L L2 St S = some (.inl g')) (k : Gd K M p l e R s m args below meth c Q S0 ρ0 g') : Gd K M p l e R s m args below meth c Q S0 ρ0 (pc, L, L2, St, S) := by
  have hn : len = 1 := hl
  subst hn
  simp only [stepI] at h
  split at h <;> first | (cases h; done) | (simp only [nx] at h; cases h; exact g_lor C0 hd k)
theorem sd_lxor (C0 : Cx K M p l s m meth c) (hd : decode (mtC M) pc = .ok (.lxor, len)) (hl : len = iln (.lxor) len) (h : stepI cm hs rt pc (some (.lxor, len, r, z)) L L2 St S = some (.inl g')) (k : Gd K M p l e R s m args below meth c Q S0 ρ0 g') : Gd K M p l e R s m args below meth c Q S0 ρ0 (pc, L, L2, St, S) := by
  have hn : len = 1 := hl
  subst hn
  simp only [stepI] at h
  split at h <;> first | (cases h; done) | (simp only [nx] at h; cases h; exact g_lxor C0 hd k)
theorem sd_lshl (C0 : Cx K M p l s m meth c) (hd : decode (mtC M) pc = .ok (.lshl, len)) (hl : len = iln (.lshl) len) (h : stepI cm hs rt pc (some (.lshl, len, r, z)) L L2 St S = some (.inl g')) (k : Gd K M p l e R s m args below meth c Q S0 ρ0 g') : Gd K M p l e R s m args below meth c Q S0 ρ0 (pc, L, L2, St, S) := by
  have hn : len = 1 := hl
  subst hn
  simp only [stepI] at h
  split at h <;> first | (cases h; done) | (simp only [nx] at h; cases h; exact g_lshl C0 hd k)
theorem sd_lshr (C0 : Cx K M p l s m meth c) (hd : decode (mtC M) pc = .ok (.lshr, len)) (hl : len = iln (.lshr) len) (h : stepI cm hs rt pc (some (.lshr, len, r, z)) L L2 St S = some (.inl g')) (k : Gd K M p l e R s m args below meth c Q S0 ρ0 g') : Gd K M p l e R s m args below meth c Q S0 ρ0 (pc, L, L2, St, S) := by
  have hn : len = 1 := hl
  subst hn
  simp only [stepI] at h
  split at h <;> first | (cases h; done) | (simp only [nx] at h; cases h; exact g_lshr C0 hd k)
theorem sd_lushr (C0 : Cx K M p l s m meth c) (hd : decode (mtC M) pc = .ok (.lushr, len)) (hl : len = iln (.lushr) len) (h : stepI cm hs rt pc (some (.lushr, len, r, z)) L L2 St S = some (.inl g')) (k : Gd K M p l e R s m args below meth c Q S0 ρ0 g') : Gd K M p l e R s m args below meth c Q S0 ρ0 (pc, L, L2, St, S) := by
  have hn : len = 1 := hl
  subst hn
  simp only [stepI] at h
  split at h <;> first | (cases h; done) | (simp only [nx] at h; cases h; exact g_lushr C0 hd k)
theorem sd_ineg (C0 : Cx K M p l s m meth c) (hd : decode (mtC M) pc = .ok (.ineg, len)) (hl : len = iln (.ineg) len) (h : stepI cm hs rt pc (some (.ineg, len, r, z)) L L2 St S = some (.inl g')) (k : Gd K M p l e R s m args below meth c Q S0 ρ0 g') : Gd K M p l e R s m args below meth c Q S0 ρ0 (pc, L, L2, St, S) := by
  have hn : len = 1 := hl
  subst hn
  simp only [stepI] at h
  split at h <;> first | (cases h; done) | (simp only [nx] at h; cases h; exact g_ineg C0 hd k)
theorem sd_i2l (C0 : Cx K M p l s m meth c) (hd : decode (mtC M) pc = .ok (.i2l, len)) (hl : len = iln (.i2l) len) (h : stepI cm hs rt pc (some (.i2l, len, r, z)) L L2 St S = some (.inl g')) (k : Gd K M p l e R s m args below meth c Q S0 ρ0 g') : Gd K M p l e R s m args below meth c Q S0 ρ0 (pc, L, L2, St, S) := by
  have hn : len = 1 := hl
  subst hn
  simp only [stepI] at h
  split at h <;> first | (cases h; done) | (simp only [nx] at h; cases h; exact g_i2l C0 hd k)
theorem sd_i2b (C0 : Cx K M p l s m meth c) (hd : decode (mtC M) pc = .ok (.i2b, len)) (hl : len = iln (.i2b) len) (h : stepI cm hs rt pc (some (.i2b, len, r, z)) L L2 St S = some (.inl g')) (k : Gd K M p l e R s m args below meth c Q S0 ρ0 g') : Gd K M p l e R s m args below meth c Q S0 ρ0 (pc, L, L2, St, S) := by
  have hn : len = 1 := hl
  subst hn
  simp only [stepI] at h
  split at h <;> first | (cases h; done) | (simp only [nx] at h; cases h; exact g_i2b C0 hd k)
theorem sd_i2c (C0 : Cx K M p l s m meth c) (hd : decode (mtC M) pc = .ok (.i2c, len)) (hl : len = iln (.i2c) len) (h : stepI cm hs rt pc (some (.i2c, len, r, z)) L L2 St S = some (.inl g')) (k : Gd K M p l e R s m args below meth c Q S0 ρ0 g') : Gd K M p l e R s m args below meth c Q S0 ρ0 (pc, L, L2, St, S) := by
  have hn : len = 1 := hl
  subst hn
  simp only [stepI] at h
  split at h <;> first | (cases h; done) | (simp only [nx] at h; cases h; exact g_i2c C0 hd k)
theorem sd_l2i (C0 : Cx K M p l s m meth c) (hd : decode (mtC M) pc = .ok (.l2i, len)) (hl : len = iln (.l2i) len) (h : stepI cm hs rt pc (some (.l2i, len, r, z)) L L2 St S = some (.inl g')) (k : Gd K M p l e R s m args below meth c Q S0 ρ0 g') : Gd K M p l e R s m args below meth c Q S0 ρ0 (pc, L, L2, St, S) := by
  have hn : len = 1 := hl
  subst hn
  simp only [stepI] at h
  split at h <;> first | (cases h; done) | (simp only [nx] at h; cases h; exact g_l2i C0 hd k)
theorem sd_i2f (C0 : Cx K M p l s m meth c) (hd : decode (mtC M) pc = .ok (.i2f, len)) (hl : len = iln (.i2f) len) (h : stepI cm hs rt pc (some (.i2f, len, r, z)) L L2 St S = some (.inl g')) (k : Gd K M p l e R s m args below meth c Q S0 ρ0 g') : Gd K M p l e R s m args below meth c Q S0 ρ0 (pc, L, L2, St, S) := by
  have hn : len = 1 := hl
  subst hn
  simp only [stepI] at h
  split at h <;> first | (cases h; done) | (simp only [nx] at h; cases h; exact g_i2f C0 hd k)
theorem sd_lcmp (C0 : Cx K M p l s m meth c) (hd : decode (mtC M) pc = .ok (.lcmp, len)) (hl : len = iln (.lcmp) len) (h : stepI cm hs rt pc (some (.lcmp, len, r, z)) L L2 St S = some (.inl g')) (k : Gd K M p l e R s m args below meth c Q S0 ρ0 g') : Gd K M p l e R s m args below meth c Q S0 ρ0 (pc, L, L2, St, S) := by
  have hn : len = 1 := hl
  subst hn
  simp only [stepI] at h
  split at h <;> first | (cases h; done) | (simp only [nx] at h; cases h; exact g_lcmp C0 hd k)
theorem sd_dcmp {op : CmpOp} (C0 : Cx K M p l s m meth c) (hd : decode (mtC M) pc = .ok (.dcmp op, len)) (hl : len = iln (.dcmp op) len) (h : stepI cm hs rt pc (some (.dcmp op, len, r, z)) L L2 St S = some (.inl g')) (k : Gd K M p l e R s m args below meth c Q S0 ρ0 g') : Gd K M p l e R s m args below meth c Q S0 ρ0 (pc, L, L2, St, S) := by
  have hn : len = 1 := hl
  subst hn
  simp only [stepI] at h
  split at h <;> first | (cases h; done) | (simp only [nx] at h; cases h; exact g_dcmp C0 hd k)
theorem sd_fcmp {op : CmpOp} (C0 : Cx K M p l s m meth c) (hd : decode (mtC M) pc = .ok (.fcmp op, len)) (hl : len = iln (.fcmp op) len) (h : stepI cm hs rt pc (some (.fcmp op, len, r, z)) L L2 St S = some (.inl g')) (k : Gd K M p l e R s m args below meth c Q S0 ρ0 g') : Gd K M p l e R s m args below meth c Q S0 ρ0 (pc, L, L2, St, S) := by
  have hn : len = 1 := hl
  subst hn
  simp only [stepI] at h
  split at h <;> first | (cases h; done) | (simp only [nx] at h; cases h; exact g_fcmp C0 hd k)
theorem sd_idiv (C0 : Cx K M p l s m meth c) (hd : decode (mtC M) pc = .ok (.idiv, len)) (hl : len = iln (.idiv) len) (h : stepI cm hs rt pc (some (.idiv, len, r, z)) L L2 St S = some (.inl g')) (k : Gd K M p l e R s m args below meth c Q S0 ρ0 g') : Gd K M p l e R s m args below meth c Q S0 ρ0 (pc, L, L2, St, S) := by
  have hn : len = 1 := hl
  subst hn
  simp only [stepI] at h
  split at h <;> first | (cases h; done) | (split at h <;> first | (cases h; done) | (rename_i hq; simp only [nx] at h; cases h; exact g_idiv C0 hd hq k))
theorem sd_irem (C0 : Cx K M p l s m meth c) (hd : decode (mtC M) pc = .ok (.irem, len)) (hl : len = iln (.irem) len) (h : stepI cm hs rt pc (some (.irem, len, r, z)) L L2 St S = some (.inl g')) (k : Gd K M p l e R s m args below meth c Q S0 ρ0 g') : Gd K M p l e R s m args below meth c Q S0 ρ0 (pc, L, L2, St, S) := by
  have hn : len = 1 := hl
  subst hn
  simp only [stepI] at h
  split at h <;> first | (cases h; done) | (split at h <;> first | (cases h; done) | (rename_i hq; simp only [nx] at h; cases h; exact g_irem C0 hd hq k))
theorem sd_fdiv (C0 : Cx K M p l s m meth c) (hd : decode (mtC M) pc = .ok (.fdiv, len)) (hl : len = iln (.fdiv) len) (h : stepI cm hs rt pc (some (.fdiv, len, r, z)) L L2 St S = some (.inl g')) (k : Gd K M p l e R s m args below meth c Q S0 ρ0 g') : Gd K M p l e R s m args below meth c Q S0 ρ0 (pc, L, L2, St, S) := by
  have hn : len = 1 := hl
  subst hn
  simp only [stepI] at h
  split at h <;> first | (cases h; done) | (split at h <;> first | (cases h; done) | (rename_i hq; simp only [nx] at h; cases h; exact g_fdiv C0 hd hq k))
theorem sd_f2d (C0 : Cx K M p l s m meth c) (hd : decode (mtC M) pc = .ok (.f2d, len)) (hl : len = iln (.f2d) len) (h : stepI cm hs rt pc (some (.f2d, len, r, z)) L L2 St S = some (.inl g')) (k : Gd K M p l e R s m args below meth c Q S0 ρ0 g') : Gd K M p l e R s m args below meth c Q S0 ρ0 (pc, L, L2, St, S) := by
  have hn : len = 1 := hl
  subst hn
  simp only [stepI] at h
  split at h <;> first | (cases h; done) | (split at h <;> first | (cases h; done) | (rename_i hq; simp only [nx] at h; cases h; exact g_f2d C0 hd hq k))
theorem sd_iconst {v : Int} (C0 : Cx K M p l s m meth c) (hd : decode (mtC M) pc = .ok (.iconst v, len)) (hl : len = iln (.iconst v) len) (h : stepI cm hs rt pc (some (.iconst v, len, r, z)) L L2 St S = some (.inl g')) (k : Gd K M p l e R s m args below meth c Q S0 ρ0 g') : Gd K M p l e R s m args below meth c Q S0 ρ0 (pc, L, L2, St, S) := by
  have hn : len = 1 := hl
  subst hn
  simp only [stepI] at h
  simp only [nx] at h; cases h; exact g_iconst C0 hd k
theorem sd_bipush {v : Int} (C0 : Cx K M p l s m meth c) (hd : decode (mtC M) pc = .ok (.bipush v, len)) (hl : len = iln (.bipush v) len) (h : stepI cm hs rt pc (some (.bipush v, len, r, z)) L L2 St S = some (.inl g')) (k : Gd K M p l e R s m args below meth c Q S0 ρ0 g') : Gd K M p l e R s m args below meth c Q S0 ρ0 (pc, L, L2, St, S) := by
  have hn : len = 2 := hl
  subst hn
  simp only [stepI] at h
  simp only [nx] at h; cases h; exact g_bipush C0 hd k
theorem sd_sipush {v : Int} (C0 : Cx K M p l s m meth c) (hd : decode (mtC M) pc = .ok (.sipush v, len)) (hl : len = iln (.sipush v) len) (h : stepI cm hs rt pc (some (.sipush v, len, r, z)) L L2 St S = some (.inl g')) (k : Gd K M p l e R s m args below meth c Q S0 ρ0 g') : Gd K M p l e R s m args below meth c Q S0 ρ0 (pc, L, L2, St, S) := by
  have hn : len = 3 := hl
  subst hn
  simp only [stepI] at h
  simp only [nx] at h; cases h; exact g_sipush C0 hd k
theorem sd_lconst {v : Fin 2} (C0 : Cx K M p l s m meth c) (hd : decode (mtC M) pc = .ok (.lconst v, len)) (hl : len = iln (.lconst v) len) (h : stepI cm hs rt pc (some (.lconst v, len, r, z)) L L2 St S = some (.inl g')) (k : Gd K M p l e R s m args below meth c Q S0 ρ0 g') : Gd K M p l e R s m args below meth c Q S0 ρ0 (pc, L, L2, St, S) := by
  have hn : len = 1 := hl
  subst hn
  simp only [stepI] at h
  simp only [nx] at h; cases h; exact g_lconst C0 hd k
theorem sd_null (C0 : Cx K M p l s m meth c) (hd : decode (mtC M) pc = .ok (.aconst_null, len)) (hl : len = iln (.aconst_null) len) (h : stepI cm hs rt pc (some (.aconst_null, len, r, z)) L L2 St S = some (.inl g')) (k : Gd K M p l e R s m args below meth c Q S0 ρ0 g') : Gd K M p l e R s m args below meth c Q S0 ρ0 (pc, L, L2, St, S) := by
  have hn : len = 1 := hl
  subst hn
  simp only [stepI] at h
  simp only [nx] at h; cases h; exact g_null C0 hd k
theorem sd_iload {i : Nat} (C0 : Cx K M p l s m meth c) (hd : decode (mtC M) pc = .ok (.iload i, len)) (hl : len = iln (.iload i) len) (h : stepI cm hs rt pc (some (.iload i, len, r, z)) L L2 St S = some (.inl g')) (k : Gd K M p l e R s m args below meth c Q S0 ρ0 g') : Gd K M p l e R s m args below meth c Q S0 ρ0 (pc, L, L2, St, S) := by
  have hn : len = 2 := hl
  subst hn
  simp only [stepI] at h
  split at h <;> first | (cases h; done) | (rename_i hq; simp only [nx] at h; cases h; exact g_iload C0 hd (ldI_eq hq) k)
theorem sd_fload {i : Nat} (C0 : Cx K M p l s m meth c) (hd : decode (mtC M) pc = .ok (.fload i, len)) (hl : len = iln (.fload i) len) (h : stepI cm hs rt pc (some (.fload i, len, r, z)) L L2 St S = some (.inl g')) (k : Gd K M p l e R s m args below meth c Q S0 ρ0 g') : Gd K M p l e R s m args below meth c Q S0 ρ0 (pc, L, L2, St, S) := by
  have hn : len = 2 := hl
  subst hn
  simp only [stepI] at h
  split at h <;> first | (cases h; done) | (rename_i hq; simp only [nx] at h; cases h; exact g_fload C0 hd (ldF_eq hq) k)
theorem sd_lload {i : Nat} (C0 : Cx K M p l s m meth c) (hd : decode (mtC M) pc = .ok (.lload i, len)) (hl : len = iln (.lload i) len) (h : stepI cm hs rt pc (some (.lload i, len, r, z)) L L2 St S = some (.inl g')) (k : Gd K M p l e R s m args below meth c Q S0 ρ0 g') : Gd K M p l e R s m args below meth c Q S0 ρ0 (pc, L, L2, St, S) := by
  have hn : len = 2 := hl
  subst hn
  simp only [stepI] at h
  split at h <;> first | (cases h; done) | (rename_i hq; simp only [nx] at h; cases h; exact g_lload C0 hd (ldL_eq hq) k)
theorem sd_iload_n {i : Fin 4} (C0 : Cx K M p l s m meth c) (hd : decode (mtC M) pc = .ok (.iload_n i, len)) (hl : len = iln (.iload_n i) len) (h : stepI cm hs rt pc (some (.iload_n i, len, r, z)) L L2 St S = some (.inl g')) (k : Gd K M p l e R s m args below meth c Q S0 ρ0 g') : Gd K M p l e R s m args below meth c Q S0 ρ0 (pc, L, L2, St, S) := by
  have hn : len = 1 := hl
  subst hn
  simp only [stepI] at h
  split at h <;> first | (cases h; done) | (rename_i hq; simp only [nx] at h; cases h; exact g_iload_n C0 hd (ldI_eq hq) k)
theorem sd_lload_n {i : Fin 4} (C0 : Cx K M p l s m meth c) (hd : decode (mtC M) pc = .ok (.lload_n i, len)) (hl : len = iln (.lload_n i) len) (h : stepI cm hs rt pc (some (.lload_n i, len, r, z)) L L2 St S = some (.inl g')) (k : Gd K M p l e R s m args below meth c Q S0 ρ0 g') : Gd K M p l e R s m args below meth c Q S0 ρ0 (pc, L, L2, St, S) := by
  have hn : len = 1 := hl
  subst hn
  simp only [stepI] at h
  split at h <;> first | (cases h; done) | (rename_i hq; simp only [nx] at h; cases h; exact g_lload_n C0 hd (ldL_eq hq) k)
theorem sd_aload {i : Nat} (C0 : Cx K M p l s m meth c) (hd : decode (mtC M) pc = .ok (.aload i, len)) (hl : len = iln (.aload i) len) (h : stepI cm hs rt pc (some (.aload i, len, r, z)) L L2 St S = some (.inl g')) (k : Gd K M p l e R s m args below meth c Q S0 ρ0 g') : Gd K M p l e R s m args below meth c Q S0 ρ0 (pc, L, L2, St, S) := by
  have hn : len = 2 := hl
  subst hn
  simp only [stepI] at h
  split at h
  · rename_i hq
    simp only [nx] at h
    cases h
    rcases ldA_eq hq with ⟨o, rfl, h1⟩ | ⟨rfl, h1⟩
    · exact g_aload C0 hd h1 k
    · exact g_aloadN C0 hd h1 k
  · cases h
theorem sd_aload_n {i : Fin 4} (C0 : Cx K M p l s m meth c) (hd : decode (mtC M) pc = .ok (.aload_n i, len)) (hl : len = iln (.aload_n i) len) (h : stepI cm hs rt pc (some (.aload_n i, len, r, z)) L L2 St S = some (.inl g')) (k : Gd K M p l e R s m args below meth c Q S0 ρ0 g') : Gd K M p l e R s m args below meth c Q S0 ρ0 (pc, L, L2, St, S) := by
  have hn : len = 1 := hl
  subst hn
  simp only [stepI] at h
  split at h
  · rename_i hq
    simp only [nx] at h
    cases h
    rcases ldA_eq hq with ⟨o, rfl, h1⟩ | ⟨rfl, h1⟩
    · exact g_aload_n C0 hd h1 k
    · exact g_aload_nN C0 hd h1 k
  · cases h
theorem sd_istore {i : Nat} (C0 : Cx K M p l s m meth c) (hd : decode (mtC M) pc = .ok (.istore i, len)) (hl : len = iln (.istore i) len) (h : stepI cm hs rt pc (some (.istore i, len, r, z)) L L2 St S = some (.inl g')) (k : Gd K M p l e R s m args below meth c Q S0 ρ0 g') : Gd K M p l e R s m args below meth c Q S0 ρ0 (pc, L, L2, St, S) := by
  have hn : len = 2 := hl
  subst hn
  simp only [stepI] at h
  split at h <;> first | (cases h; done) | (simp only [st1, nx] at h; split at h <;> first | (cases h; done) | (rename_i hq; cases h; exact g_istore C0 hd hq k))
theorem sd_istore_n {i : Fin 4} (C0 : Cx K M p l s m meth c) (hd : decode (mtC M) pc = .ok (.istore_n i, len)) (hl : len = iln (.istore_n i) len) (h : stepI cm hs rt pc (some (.istore_n i, len, r, z)) L L2 St S = some (.inl g')) (k : Gd K M p l e R s m args below meth c Q S0 ρ0 g') : Gd K M p l e R s m args below meth c Q S0 ρ0 (pc, L, L2, St, S) := by
  have hn : len = 1 := hl
  subst hn
  simp only [stepI] at h
  split at h <;> first | (cases h; done) | (simp only [st1, nx] at h; split at h <;> first | (cases h; done) | (rename_i hq; cases h; exact g_istore_n C0 hd hq k))
theorem sd_fstore {i : Nat} (C0 : Cx K M p l s m meth c) (hd : decode (mtC M) pc = .ok (.fstore i, len)) (hl : len = iln (.fstore i) len) (h : stepI cm hs rt pc (some (.fstore i, len, r, z)) L L2 St S = some (.inl g')) (k : Gd K M p l e R s m args below meth c Q S0 ρ0 g') : Gd K M p l e R s m args below meth c Q S0 ρ0 (pc, L, L2, St, S) := by
  have hn : len = 2 := hl
  subst hn
  simp only [stepI] at h
  split at h <;> first | (cases h; done) | (simp only [st1, nx] at h; split at h <;> first | (cases h; done) | (rename_i hq; cases h; exact g_fstore C0 hd hq k))
theorem sd_lstore {i : Nat} (C0 : Cx K M p l s m meth c) (hd : decode (mtC M) pc = .ok (.lstore i, len)) (hl : len = iln (.lstore i) len) (h : stepI cm hs rt pc (some (.lstore i, len, r, z)) L L2 St S = some (.inl g')) (k : Gd K M p l e R s m args below meth c Q S0 ρ0 g') : Gd K M p l e R s m args below meth c Q S0 ρ0 (pc, L, L2, St, S) := by
  have hn : len = 2 := hl
  subst hn
  simp only [stepI] at h
  split at h <;> first | (cases h; done) | (simp only [st2, nx] at h; split at h <;> first | (cases h; done) | (rename_i hq; cases h; exact g_lstore C0 hd hq k))
theorem sd_lstore_n {i : Fin 4} (C0 : Cx K M p l s m meth c) (hd : decode (mtC M) pc = .ok (.lstore_n i, len)) (hl : len = iln (.lstore_n i) len) (h : stepI cm hs rt pc (some (.lstore_n i, len, r, z)) L L2 St S = some (.inl g')) (k : Gd K M p l e R s m args below meth c Q S0 ρ0 g') : Gd K M p l e R s m args below meth c Q S0 ρ0 (pc, L, L2, St, S) := by
  have hn : len = 1 := hl
  subst hn
  simp only [stepI] at h
  split at h <;> first | (cases h; done) | (simp only [st2, nx] at h; split at h <;> first | (cases h; done) | (rename_i hq; cases h; exact g_lstore_n C0 hd hq k))
theorem sd_astore {i : Nat} (C0 : Cx K M p l s m meth c) (hd : decode (mtC M) pc = .ok (.astore i, len)) (hl : len = iln (.astore i) len) (h : stepI cm hs rt pc (some (.astore i, len, r, z)) L L2 St S = some (.inl g')) (k : Gd K M p l e R s m args below meth c Q S0 ρ0 g') : Gd K M p l e R s m args below meth c Q S0 ρ0 (pc, L, L2, St, S) := by
  have hn : len = 2 := hl
  subst hn
  simp only [stepI] at h
  split at h <;> first | (cases h; done) | (split at h <;> first | (cases h; done) | (rename_i ha; simp only [st1, nx] at h; split at h <;> first | (cases h; done) | (rename_i hq; cases h; exact g_astore C0 hd hq ha k)))
theorem sd_astore_n {i : Fin 4} (C0 : Cx K M p l s m meth c) (hd : decode (mtC M) pc = .ok (.astore_n i, len)) (hl : len = iln (.astore_n i) len) (h : stepI cm hs rt pc (some (.astore_n i, len, r, z)) L L2 St S = some (.inl g')) (k : Gd K M p l e R s m args below meth c Q S0 ρ0 g') : Gd K M p l e R s m args below meth c Q S0 ρ0 (pc, L, L2, St, S) := by
  have hn : len = 1 := hl
  subst hn
  simp only [stepI] at h
  split at h <;> first | (cases h; done) | (split at h <;> first | (cases h; done) | (rename_i ha; simp only [st1, nx] at h; split at h <;> first | (cases h; done) | (rename_i hq; cases h; exact g_astore_n C0 hd hq ha k)))
theorem sd_iinc {i : Nat} {v : Int} (C0 : Cx K M p l s m meth c) (hd : decode (mtC M) pc = .ok (.iinc i v, len)) (hl : len = iln (.iinc i v) len) (h : stepI cm hs rt pc (some (.iinc i v, len, r, z)) L L2 St S = some (.inl g')) (k : Gd K M p l e R s m args below meth c Q S0 ρ0 g') : Gd K M p l e R s m args below meth c Q S0 ρ0 (pc, L, L2, St, S) := by
  have hn : len = 3 := hl
  subst hn
  simp only [stepI] at h
  split at h <;> first | (cases h; done) | (rename_i hx; simp only [st1, nx] at h; split at h <;> first | (cases h; done) | (rename_i hq; cases h; exact g_iinc C0 hd (ldI_eq hx) hq k))
theorem sd_dup (C0 : Cx K M p l s m meth c) (hd : decode (mtC M) pc = .ok (.dup, len)) (hl : len = iln (.dup) len) (h : stepI cm hs rt pc (some (.dup, len, r, z)) L L2 St S = some (.inl g')) (k : Gd K M p l e R s m args below meth c Q S0 ρ0 g') : Gd K M p l e R s m args below meth c Q S0 ρ0 (pc, L, L2, St, S) := by
  have hn : len = 1 := hl
  subst hn
  simp only [stepI] at h
  split at h <;> first | (cases h; done) | (split at h <;> first | (cases h; done) | (rename_i hq; simp only [nx] at h; cases h; exact g_dup C0 hd hq k))
theorem sd_pop (C0 : Cx K M p l s m meth c) (hd : decode (mtC M) pc = .ok (.pop, len)) (hl : len = iln (.pop) len) (h : stepI cm hs rt pc (some (.pop, len, r, z)) L L2 St S = some (.inl g')) (k : Gd K M p l e R s m args below meth c Q S0 ρ0 g') : Gd K M p l e R s m args below meth c Q S0 ρ0 (pc, L, L2, St, S) := by
  have hn : len = 1 := hl
  subst hn
  simp only [stepI] at h
  split at h <;> first | (cases h; done) | (split at h <;> first | (cases h; done) | (rename_i hq; simp only [nx] at h; cases h; exact g_pop C0 hd hq k))
theorem sd_dup_x1 (C0 : Cx K M p l s m meth c) (hd : decode (mtC M) pc = .ok (.dup_x1, len)) (hl : len = iln (.dup_x1) len) (h : stepI cm hs rt pc (some (.dup_x1, len, r, z)) L L2 St S = some (.inl g')) (k : Gd K M p l e R s m args below meth c Q S0 ρ0 g') : Gd K M p l e R s m args below meth c Q S0 ρ0 (pc, L, L2, St, S) := by
  have hn : len = 1 := hl
  subst hn
  simp only [stepI] at h
  split at h <;> first | (cases h; done) | (split at h <;> first | (cases h; done) | (rename_i hq; simp only [nx] at h; cases h; exact g_dup_x1 C0 hd hq.1 hq.2 k))
theorem sd_dup2 (C0 : Cx K M p l s m meth c) (hd : decode (mtC M) pc = .ok (.dup2, len)) (hl : len = iln (.dup2) len) (h : stepI cm hs rt pc (some (.dup2, len, r, z)) L L2 St S = some (.inl g')) (k : Gd K M p l e R s m args below meth c Q S0 ρ0 g') : Gd K M p l e R s m args below meth c Q S0 ρ0 (pc, L, L2, St, S) := by
  have hn : len = 1 := hl
  subst hn
  simp only [stepI] at h
  split at h <;> first | (cases h; done) | (split at h <;> first | (cases h; done) | (rename_i hq; simp only [nx] at h; cases h; exact g_dup2 C0 hd hq.1 hq.2 k))
theorem sd_goto {off : Int} (C0 : Cx K M p l s m meth c) (hd : decode (mtC M) pc = .ok (.goto off, len)) (hl : len = iln (.goto off) len) (h : stepI cm hs rt pc (some (.goto off, len, r, z)) L L2 St S = some (.inl g')) (k : Gd K M p l e R s m args below meth c Q S0 ρ0 g') : Gd K M p l e R s m args below meth c Q S0 ρ0 (pc, L, L2, St, S) := by
  have hn : len = 3 := hl
  subst hn
  simp only [stepI] at h
  split at h <;> first | (cases h; done) | (rename_i hq; simp only [nx] at h; cases h; exact g_goto C0 hd (tg_eq hq) k)
theorem sd_ifCond {cc : Jvm.ClassFile.Cond} {off : Int} (C0 : Cx K M p l s m meth c) (hd : decode (mtC M) pc = .ok (.ifCond cc off, len)) (hl : len = iln (.ifCond cc off) len) (h : stepI cm hs rt pc (some (.ifCond cc off, len, r, z)) L L2 St S = some (.inl g')) (k : Gd K M p l e R s m args below meth c Q S0 ρ0 g') : Gd K M p l e R s m args below meth c Q S0 ρ0 (pc, L, L2, St, S) := by
  have hn : len = 3 := hl
  subst hn
  simp only [stepI] at h
  split at h <;> first | (cases h; done) | (split at h <;> first | (cases h; done) | (rename_i hq; simp only [nx] at h; cases h; exact g_if C0 hd (tg_eq hq) k))
theorem sd_if_icmp {cc : Jvm.ClassFile.Cond} {off : Int} (C0 : Cx K M p l s m meth c) (hd : decode (mtC M) pc = .ok (.if_icmp cc off, len)) (hl : len = iln (.if_icmp cc off) len) (h : stepI cm hs rt pc (some (.if_icmp cc off, len, r, z)) L L2 St S = some (.inl g')) (k : Gd K M p l e R s m args below meth c Q S0 ρ0 g') : Gd K M p l e R s m args below meth c Q S0 ρ0 (pc, L, L2, St, S) := by
  have hn : len = 3 := hl
  subst hn
  simp only [stepI] at h
  split at h <;> first | (cases h; done) | (split at h <;> first | (cases h; done) | (rename_i hq; simp only [nx] at h; cases h; exact g_icmp C0 hd (tg_eq hq) k))
theorem sd_ifnull {off : Int} (C0 : Cx K M p l s m meth c) (hd : decode (mtC M) pc = .ok (.ifnull off, len)) (hl : len = iln (.ifnull off) len) (h : stepI cm hs rt pc (some (.ifnull off, len, r, z)) L L2 St S = some (.inl g')) (k : Gd K M p l e R s m args below meth c Q S0 ρ0 g') : Gd K M p l e R s m args below meth c Q S0 ρ0 (pc, L, L2, St, S) := by
  have hn : len = 3 := hl
  subst hn
  simp only [stepI] at h
  split at h
  · split at h
    · cases h
    · rename_i hq
      simp only [nx] at h
      cases h
      exact g_ifnull C0 hd hq k
  · split at h
    · rename_i hq
      simp only [nx] at h
      cases h
      exact g_ifnullN C0 hd (tg_eq hq) k
    · cases h
  · cases h
theorem sd_ifnonnull {off : Int} (C0 : Cx K M p l s m meth c) (hd : decode (mtC M) pc = .ok (.ifnonnull off, len)) (hl : len = iln (.ifnonnull off) len) (h : stepI cm hs rt pc (some (.ifnonnull off, len, r, z)) L L2 St S = some (.inl g')) (k : Gd K M p l e R s m args below meth c Q S0 ρ0 g') : Gd K M p l e R s m args below meth c Q S0 ρ0 (pc, L, L2, St, S) := by
  have hn : len = 3 := hl
  subst hn
  simp only [stepI] at h
  split at h
  · split at h
    · rename_i hq
      split at h
      · cases h
      · rename_i ho
        simp only [nx] at h
        cases h
        exact g_ifnonnull C0 hd (tg_eq hq) ho k
    · cases h
  · simp only [nx] at h
    cases h
    exact g_ifnonnullN C0 hd k
  · cases h
theorem sd_fconst {v : Fin 3} (C0 : Cx K M p l s m meth c) (hd : decode (mtC M) pc = .ok (.fconst v, len)) (hl : len = iln (.fconst v) len) (h : stepI cm hs rt pc (some (.fconst v, len, r, z)) L L2 St S = some (.inl g')) (k : Gd K M p l e R s m args below meth c Q S0 ρ0 g') : Gd K M p l e R s m args below meth c Q S0 ρ0 (pc, L, L2, St, S) := by
  have hn : len = 1 := hl
  subst hn
  simp only [stepI] at h
  split at h <;> first | (cases h; done) | (rename_i hq; subst hq; simp only [nx] at h; cases h; exact g_fconst0 C0 hd k)
theorem sd_tableswitch {d lo hi : Int} {offs : Array Int} (C0 : Cx K M p l s m meth c) (hd : decode (mtC M) pc = .ok (.tableswitch d lo hi offs, len)) (h : stepI cm hs rt pc (some (.tableswitch d lo hi offs, len, r, z)) L L2 St S = some (.inl g')) (k : Gd K M p l e R s m args below meth c Q S0 ρ0 g') : Gd K M p l e R s m args below meth c Q S0 ρ0 (pc, L, L2, St, S) := by
  simp only [stepI] at h
  split at h
  · split at h
    · rename_i hc
      split at h
      · rename_i hq
        simp only [nx] at h
        cases h
        exact g_tsO C0 hd hc (tg_eq hq) k
      · cases h
    · rename_i hc
      split at h
      · rename_i ho
        split at h
        · rename_i hq
          simp only [nx] at h
          cases h
          exact g_tsI C0 hd hc ho (tg_eq hq) k
        · cases h
      · cases h
  · cases h
theorem sd_getfield {i : Nat} (C0 : Cx K M p l s m meth c) (hd : decode (mtC M) pc = .ok (.getfield i, len)) (hl : len = iln (.getfield i) len) (h : stepI cm hs rt pc (some (.getfield i, len, r, z)) L L2 St S = some (.inl g')) (hlp : lP (mE M) pc (.getfield i, len, r, z)) (htc : tchk (pc, (.getfield i, len, r, z)) = true) (k : Gd K M p l e R s m args below meth c Q S0 ρ0 g') : Gd K M p l e R s m args below meth c Q S0 ρ0 (pc, L, L2, St, S) := by
  have hn : len = 3 := hl
  subst hn
  simp only [stepI] at h
  split at h
  · split at h
    · rename_i hq
      simp only [nx] at h
      cases h
      have hw : nfl r.1 ≤ r.2.1 ∨ wAt z.toNat = some (fldW (mtY M).cls i r.1 r.2.1 r.2.2.1) := hlp
      have ht : (!(r.1 == 0) || decide (r.2.1 < 2)) = true := htc
      exact g_getfield C0 hd hq.1 hq.2 (fun h0 => by rw [h0] at ht; simpa using ht) (hw.resolve_left (Nat.not_le.mpr hq.2)) k
    · cases h
  · cases h
theorem sd_ldc2 {i : Nat} (C0 : Cx K M p l s m meth c) (hd : decode (mtC M) pc = .ok (.ldc2_w i, len)) (hl : len = iln (.ldc2_w i) len) (h : stepI cm hs rt pc (some (.ldc2_w i, len, r, z)) L L2 St S = some (.inl g')) (hlp : lP (mE M) pc (.ldc2_w i, len, r, z)) (k : Gd K M p l e R s m args below meth c Q S0 ρ0 g') : Gd K M p l e R s m args below meth c Q S0 ρ0 (pc, L, L2, St, S) := by
  have hn : len = 3 := hl
  subst hn
  simp only [stepI] at h
  simp only [nx] at h; cases h; exact g_ldc2 C0 hd hlp k
theorem sd_getstatic {i : Nat} (C0 : Cx K M p l s m meth c) (hd : decode (mtC M) pc = .ok (.getstatic i, len)) (hl : len = iln (.getstatic i) len) (h : stepI cm hs rt pc (some (.getstatic i, len, r, z)) L L2 St S = some (.inl g')) (hlp : lP (mE M) pc (.getstatic i, len, r, z)) (k : Gd K M p l e R s m args below meth c Q S0 ρ0 g') : Gd K M p l e R s m args below meth c Q S0 ρ0 (pc, L, L2, St, S) := by
  have hn : len = 3 := hl
  subst hn
  obtain ⟨a, r2, r3, r4⟩ := r
  have hw : 4 ≤ a ∨ wAt z.toNat = some (.fieldLink (mtY M).cls i (stF a).1 (stF a).2.1 (stF a).2.2) := hlp
  match a, h, hw with
  | 0, h, hw => cases h; exact g_getstatic (a := 0) C0 (by decide) hd (hw.resolve_left (by decide)) k
  | 1, h, hw => cases h; exact g_getstatic (a := 1) C0 (by decide) hd (hw.resolve_left (by decide)) k
  | 2, h, hw => cases h; exact g_getstatic (a := 2) C0 (by decide) hd (hw.resolve_left (by decide)) k
  | 3, h, hw => cases h; exact g_getstatic (a := 3) C0 (by decide) hd (hw.resolve_left (by decide)) k
  | _ + 4, h, _ => cases h
theorem sd_ldc {i : Nat} (C0 : Cx K M p l s m meth c) (hd : decode (mtC M) pc = .ok (.ldc i, len)) (hl : len = iln (.ldc i) len) (h : stepI cm hs rt pc (some (.ldc i, len, r, z)) L L2 St S = some (.inl g')) (hlp : lP (mE M) pc (.ldc i, len, r, z)) (k : Gd K M p l e R s m args below meth c Q S0 ρ0 g') : Gd K M p l e R s m args below meth c Q S0 ρ0 (pc, L, L2, St, S) := by
  have hn : len = 2 := hl
  subst hn
  obtain ⟨a, r2, r3, r4⟩ := r
  match a, h, hlp with
  | 0, h, hw => cases h; exact g_ldcI C0 hd hw k
  | 1, h, hw =>
    cases h
    obtain ⟨h1, h2, h3⟩ := hw
    have hd2 := hd
    rw [(h3 : i = ([312, 317, 319] : List Nat).getD r2 0)] at hd2
    exact g_ldcS C0 h2 h1 hd2 k
  | _ + 2, h, _ => cases h
theorem sd_iaload (C0 : Cx K M p l s m meth c) (hd : decode (mtC M) pc = .ok (.iaload, len)) (hl : len = iln (.iaload) len) (h : stepI cm hs rt pc (some (.iaload, len, r, z)) L L2 St S = some (.inl g')) (k : Gd K M p l e R s m args below meth c Q S0 ρ0 g') : Gd K M p l e R s m args below meth c Q S0 ρ0 (pc, L, L2, St, S) := by
  have hn : len = 1 := hl
  subst hn
  simp only [stepI] at h
  split at h <;> first | (cases h; done) | (split at h <;> first | (cases h; done) | (rename_i hk; split at h <;> first | (cases h; done) | (rename_i hi; simp only [nx] at h; cases h; exact g_iaload C0 hd hk hi k)))
theorem sd_laload (C0 : Cx K M p l s m meth c) (hd : decode (mtC M) pc = .ok (.laload, len)) (hl : len = iln (.laload) len) (h : stepI cm hs rt pc (some (.laload, len, r, z)) L L2 St S = some (.inl g')) (k : Gd K M p l e R s m args below meth c Q S0 ρ0 g') : Gd K M p l e R s m args below meth c Q S0 ρ0 (pc, L, L2, St, S) := by
  have hn : len = 1 := hl
  subst hn
  simp only [stepI] at h
  split at h <;> first | (cases h; done) | (split at h <;> first | (cases h; done) | (rename_i hk; split at h <;> first | (cases h; done) | (rename_i hi; simp only [nx] at h; cases h; exact g_laload C0 hd hk hi k)))
theorem sd_daload (C0 : Cx K M p l s m meth c) (hd : decode (mtC M) pc = .ok (.daload, len)) (hl : len = iln (.daload) len) (h : stepI cm hs rt pc (some (.daload, len, r, z)) L L2 St S = some (.inl g')) (k : Gd K M p l e R s m args below meth c Q S0 ρ0 g') : Gd K M p l e R s m args below meth c Q S0 ρ0 (pc, L, L2, St, S) := by
  have hn : len = 1 := hl
  subst hn
  simp only [stepI] at h
  split at h <;> first | (cases h; done) | (split at h <;> first | (cases h; done) | (rename_i hk; split at h <;> first | (cases h; done) | (rename_i hi; simp only [nx] at h; cases h; exact g_daload C0 hd hk hi k)))
theorem sd_aaload (C0 : Cx K M p l s m meth c) (hd : decode (mtC M) pc = .ok (.aaload, len)) (hl : len = iln (.aaload) len) (h : stepI cm hs rt pc (some (.aaload, len, r, z)) L L2 St S = some (.inl g')) (k : Gd K M p l e R s m args below meth c Q S0 ρ0 g') : Gd K M p l e R s m args below meth c Q S0 ρ0 (pc, L, L2, St, S) := by
  have hn : len = 1 := hl
  subst hn
  simp only [stepI] at h
  split at h <;> first | (cases h; done) | (split at h <;> first | (cases h; done) | (rename_i hk; split at h <;> first | (cases h; done) | (rename_i hi; simp only [nx] at h; cases h; exact g_aaload C0 hd hk hi k)))
theorem sd_baload (C0 : Cx K M p l s m meth c) (hd : decode (mtC M) pc = .ok (.baload, len)) (hl : len = iln (.baload) len) (h : stepI cm hs rt pc (some (.baload, len, r, z)) L L2 St S = some (.inl g')) (k : Gd K M p l e R s m args below meth c Q S0 ρ0 g') : Gd K M p l e R s m args below meth c Q S0 ρ0 (pc, L, L2, St, S) := by
  have hn : len = 1 := hl
  subst hn
  simp only [stepI] at h
  split at h <;> first | (cases h; done) | (split at h <;> first | (cases h; done) | (rename_i hk; split at h <;> first | (cases h; done) | (rename_i hi; simp only [nx] at h; cases h; first | exact g_baload C0 hd hk hi k | exact g_zaload C0 hd hk hi k)))
theorem sd_alen (C0 : Cx K M p l s m meth c) (hd : decode (mtC M) pc = .ok (.arraylength, len)) (hl : len = iln (.arraylength) len) (h : stepI cm hs rt pc (some (.arraylength, len, r, z)) L L2 St S = some (.inl g')) (k : Gd K M p l e R s m args below meth c Q S0 ρ0 g') : Gd K M p l e R s m args below meth c Q S0 ρ0 (pc, L, L2, St, S) := by
  have hn : len = 1 := hl
  subst hn
  simp only [stepI] at h
  split at h <;> first | (cases h; done) | (split at h <;> first | (cases h; done) | (rename_i hk; simp only [nx] at h; cases h; exact g_alen C0 hd hk k))
theorem sd_iastore (C0 : Cx K M p l s m meth c) (hd : decode (mtC M) pc = .ok (.iastore, len)) (hl : len = iln (.iastore) len) (h : stepI cm hs rt pc (some (.iastore, len, r, z)) L L2 St S = some (.inl g')) (k : Gd K M p l e R s m args below meth c Q S0 ρ0 g') : Gd K M p l e R s m args below meth c Q S0 ρ0 (pc, L, L2, St, S) := by
  have hn : len = 1 := hl
  subst hn
  simp only [stepI] at h
  obtain ⟨I, V, W9, G⟩ := S
  split at h <;> first | (cases h; done) | (split at h <;> first | (cases h; done) | (rename_i hk; split at h <;> first | (cases h; done) | (rename_i hi; simp only [nx] at h; cases h; exact g_iastore C0 hd hk hi.1 hi.2 k)))
theorem sd_bastore (C0 : Cx K M p l s m meth c) (hd : decode (mtC M) pc = .ok (.bastore, len)) (hl : len = iln (.bastore) len) (h : stepI cm hs rt pc (some (.bastore, len, r, z)) L L2 St S = some (.inl g')) (k : Gd K M p l e R s m args below meth c Q S0 ρ0 g') : Gd K M p l e R s m args below meth c Q S0 ρ0 (pc, L, L2, St, S) := by
  have hn : len = 1 := hl
  subst hn
  simp only [stepI] at h
  obtain ⟨I, V, W9, G⟩ := S
  split at h <;> first | (cases h; done) | (split at h <;> first | (cases h; done) | (rename_i hk; split at h <;> first | (cases h; done) | (rename_i hi; simp only [nx] at h; cases h; first | exact g_bastore C0 hd hk hi.1 hi.2 k | exact g_zastore C0 hd hk hi.1 hi.2.1 hi.2.2 k)))
theorem ro_ld {o : OId} {ty : FieldType} {n : Nat} (h : kOf o = .inr (ty, n)) (ht : ty = .long ∨ ty = .double) : isRo o = false := by
  cases h9 : isRo o with
  | false => rfl
  | true =>
    exfalso
    unfold isRo at h9
    unfold kOf at h
    rcases ht with rfl | rfl <;> split at h <;> simp_all
theorem sd_lastore (C0 : Cx K M p l s m meth c) (hd : decode (mtC M) pc = .ok (.lastore, len)) (hl : len = iln (.lastore) len) (h : stepI cm hs rt pc (some (.lastore, len, r, z)) L L2 St S = some (.inl g')) (k : Gd K M p l e R s m args below meth c Q S0 ρ0 g') : Gd K M p l e R s m args below meth c Q S0 ρ0 (pc, L, L2, St, S) := by
  have hn : len = 1 := hl
  subst hn
  simp only [stepI] at h
  obtain ⟨I, V, W9, G⟩ := S
  split at h <;> first | (cases h; done) | (split at h <;> first | (cases h; done) | (rename_i hk; split at h <;> first | (cases h; done) | (rename_i hi; simp only [nx] at h; cases h; exact g_lastore C0 hd hk hi (ro_ld hk (Or.inl rfl)) k)))
theorem sd_dastore (C0 : Cx K M p l s m meth c) (hd : decode (mtC M) pc = .ok (.dastore, len)) (hl : len = iln (.dastore) len) (h : stepI cm hs rt pc (some (.dastore, len, r, z)) L L2 St S = some (.inl g')) (k : Gd K M p l e R s m args below meth c Q S0 ρ0 g') : Gd K M p l e R s m args below meth c Q S0 ρ0 (pc, L, L2, St, S) := by
  have hn : len = 1 := hl
  subst hn
  simp only [stepI] at h
  obtain ⟨I, V, W9, G⟩ := S
  split at h <;> first | (cases h; done) | (split at h <;> first | (cases h; done) | (rename_i hk; split at h <;> first | (cases h; done) | (rename_i hi; simp only [nx] at h; cases h; exact g_dastore C0 hd hk hi (ro_ld hk (Or.inr rfl)) k)))
end STEP14
