/-! SOUNDNESS: calls with a receiver -/
section STEP12
variable {K : KX} {M : Nat} {p : Program} {l : Launch} {e : Env} {R : Room} {s : State} {m : MethodId} {args : Array Value} {below : List Frame} {meth : Method} {c : Code} {Q : State → Prop} {S0 : SS} {ρ0 ρ' : OId → Nat}
variable {ρ : OId → Nat} {H H0 H1 : Heap} {locs locs1 : List Loc} {ls : Array Slot} {L : List (Option AV)} {L2 : List (Nat × AV)} {St : List AV} {S S' : SS} {pc n : Nat} {z : Int} {r : Nat × Nat × Nat × Nat}
/-- the common part: what a call with a receiver rests on -/
theorem g_recv {na a : Nat} {o : OId} {o9 : Out} (C0 : Cx K M p l s m meth c) (hl1 : na + 1 ≤ St.length) (hl2 : St.length ≤ na + 5) (hg : St.getD na aN = .inr o) (hk : kOf o = .inl a) (ha : 0 < nfl a) (hmono : cel S ≤ cel o9.2 ∧ slo S ≤ slo o9.2) (hcells : cel o9.2 - cel S0 ≤ R.cells) (hslots : slo o9.2 - slo S0 ≤ R.slots)
    (run : ∀ (ρ : OId → Nat) (H : Heap) (locs : List Loc) (ls : Array Slot) (b : Addr) (As rest : List Value), PreV s H (clC a).1 b (PcK K ρ S (St.take (na + 1)).reverse) As → As.length = na → ls.size = mtL M → St.map (av K ρ) = As.reverse ++ .ref b :: rest → 2 * (F0 m pc ls (St.map (av K ρ))).monitorRoom + (rest.map fun v => v.category).sum ≤ 8 → cel S - cel S0 + (cel o9.2 - cel S) ≤ R.cells ∧ slo S - slo S0 + (slo o9.2 - slo S) ≤ R.slots →
      vx_Run p l e R s m args below meth c H locs (cel S - cel S0) (slo S - slo S0) (cel o9.2 - cel S) (slo o9.2 - slo S) (F0 m pc ls (St.map (av K ρ))) rest (QcK K ρ S o9 (Value.ref b :: As).toArray) (XcK K ρ S o9) (xA K))
    (kv : ∀ v, o9.1 = .inl v → Gd K M p l e R s m args below meth c Q S0 ρ0 (pc + 3, L, L2, v.toList ++ St.drop (na + 1), o9.2)) (kx : ∀ E, o9.1 = .inr E → GdX K M p l e R s m args below meth c Q S0 ρ0 E pc L L2 o9.2) : Gd K M p l e R s m args below meth c Q S0 ρ0 (pc, L, L2, St, S) := by
  intro ρ H locs ls F
  obtain ⟨e1, e2⟩ := split_recv hl1 hg
  have hmem : aR o ∈ St := by rw [e1]; exact List.mem_append_right _ List.mem_cons_self
  obtain ⟨h48, hcell⟩ := recv_ok C0 F (F.2.2 _ hmem) hk ha
  have F' : Fs K M S0 ρ0 s.heap ρ H locs ls L L2 (St.drop (na + 1)) S := F.stk (fun v hv => F.2.2 v (List.mem_of_mem_drop hv))
  have hpre := pre_ok (as := (St.take (na + 1)).reverse) C0 F (fun v hv => F.2.2 v (List.mem_of_mem_take (List.mem_reverse.mp hv)))
  have hcat := cats4 (K := K) (ρ := ρ) (St := St.drop (na + 1)) (by rw [List.length_drop]; omega)
  have hlen : ((St.take na).reverse.map (av K ρ)).length = na := by rw [List.length_map, List.length_reverse, List.length_take]; omega
  have hmap : (St.take (na + 1)).reverse.map (av K ρ) = .ref (ad K ρ o) :: (St.take na).reverse.map (av K ρ) := by rw [e2, List.map_cons, av_ref h48]
  have hstk : St.map (av K ρ) = ((St.take na).reverse.map (av K ρ)).reverse ++ .ref (ad K ρ o) :: (St.drop (na + 1)).map (av K ρ) := by
    rw [List.map_reverse, List.reverse_reverse, ← av_ref h48, ← List.map_cons, ← List.map_append, ← e1]
  have hf : cel S - cel S0 + (cel o9.2 - cel S) ≤ R.cells ∧ slo S - slo S0 + (slo o9.2 - slo S) ≤ R.slots := by
    rw [sub_3 F.1.2.2.2.1 hmono.1, sub_3 F.1.2.2.2.2.1 hmono.2]
    exact ⟨hcells, hslots⟩
  exact run_go F' (run ρ H locs ls (ad K ρ o) _ _ ⟨hpre.1, hcell, fun U h1 h2 => by rw [← hmap]; exact hpre.2 U h1 h2⟩ hlen F.2.1.1.1 hstk (by show 2 * 0 + _ ≤ 8; omega) hf) kv kx
theorem ClassAt_ok {a : Nat} (C0 : Cx K M p l s m meth c) (ha : 0 < nfl a) : ClassAt s (clC a).1 ((xD K).1 a) := by
  obtain ⟨hc1, -⟩ := cl_ok a ha
  exact (C0.vk.1 a _ hc1).2
/-- what every callee brings -/
theorem back_ok {M' d : Nat} {o9 : Out} (C0 : Cx K M p l s m meth c) (hM' : M' < 311) (hh : hhT.getD M' [] = []) (hR : d + 11 ≤ R.frames ∧ 64 * d + 264 ≤ R.locals) :
    (cel o9.2 - cel S = cel o9.2 - cel S ∧ slo o9.2 - slo S = slo o9.2 - slo S ∧ d + 10 + 1 ≤ R.frames ∧ 8 + (mtL M' + 11) + (64 * d + 200) ≤ R.locals ∧ (∀ w ∈ [codeW M'], ∀ (a' : Array Value) (U : State), s.WarmedH U.vm → w.before a' U = true) ∧ Cond.code (mtY M') (mtC M') (mtL M') (mtR M') ∈ [codeW M']) ∧ (Cond.code (mtY M') (mtC M') (mtL M') (mtR M')).before args s = true ∧ (Cond.initialized (mtY M').cls).before args s = true := by
  obtain ⟨p1, p2, p3, p4, p5, p6⟩ := mP_of hM'
  have hcw := hh_code hh
  exact ⟨⟨rfl, rfl, by omega, by omega, ws_hold C0 hM', by rw [hcw]; exact List.mem_singleton.mpr rfl⟩, by rw [← hcw]; exact C0.w p1 args, C0.w p3 args⟩
theorem inst_of {M' : Nat} (C0 : Cx K M p l s m meth c) (hM' : M' < 311) (hst : stT.getD M' true = false) : (Cond.instanceMethod (mtY M')).before args s = true := by
  have p2 := (mP_of hM').2.1
  rw [if_neg (stT_f hst)] at p2
  exact C0.w p2 args
/-- kinds 2 to 8 -/
theorem g_kv {i M' na a zz d k9 : Nat} {o : OId} {o9 : Out} {ins : Instr} (C0 : Cx K M p l s m meth c) (hins : ins = .invokevirtual i ∧ (k9 = 2 ∨ k9 = 3 ∨ k9 = 4 ∨ k9 = 8) ∨ ins = .invokespecial i ∧ (k9 = 5 ∨ k9 = 6 ∨ k9 = 7)) (hd : decode (mtC M) pc = .ok (ins, 3)) (hM' : M' < 311) (hh : hhT.getD M' [] = []) (hw : cP (mtY M).cls i (M', na, k9, a) zz) (hl1 : na + 1 ≤ St.length) (hl2 : St.length ≤ na + 5) (hg : St.getD na aN = .inr o) (hk : kOf o = .inl a) (ha : 0 < nfl a) (hR : d + 11 ≤ R.frames ∧ 64 * d + 264 ≤ R.locals) (hcm : CM K l d M' (St.take (na + 1)).reverse S o9) (hmono : cel S ≤ cel o9.2 ∧ slo S ≤ slo o9.2) (hcells : cel o9.2 - cel S0 ≤ R.cells) (hslots : slo o9.2 - slo S0 ≤ R.slots)
    (kv : ∀ v, o9.1 = .inl v → Gd K M p l e R s m args below meth c Q S0 ρ0 (pc + 3, L, L2, v.toList ++ St.drop (na + 1), o9.2)) (kx : ∀ E, o9.1 = .inr E → GdX K M p l e R s m args below meth c Q S0 ρ0 E pc L L2 o9.2) : Gd K M p l e R s m args below meth c Q S0 ρ0 (pc, L, L2, St, S) := by
  refine g_recv C0 hl1 hl2 hg hk ha hmono hcells hslots (fun ρ H locs ls b As rest hpre hlen hsz hstk hcat hf => ?_) kv kx
  obtain ⟨hbk, hcode, hini⟩ := back_ok (S := S) (o9 := o9) (args := args) C0 hM' hh hR
  rcases hins with ⟨rfl, rfl | rfl | rfl | rfl⟩ | ⟨rfl, rfl | rfl | rfl⟩
  · obtain ⟨w1, w2, w3, w4, w5⟩ := hw
    rw [← w4] at hpre
    exact vx_runV (fixC C0) (hcm ρ) ⟨⟨hbk.1, hbk.2.1, hbk.2.2.1, hbk.2.2.2.1, hbk.2.2.2.2.1, hbk.2.2.2.2.2, hcode, hini, nMH hM', plen hM' w3, C0.w w1 args⟩, inst_of C0 hM' w2, C0.w w5 args⟩ hpre rfl hlen hsz hstk hcat hd hf
  · obtain ⟨w1, w2, w3, w4, w5⟩ := hw
    rw [← w4] at hpre
    exact vx_runVN (fixC C0) (hcm ρ) ⟨⟨hbk, hcode, hini, nMH hM', plen hM' w3, C0.w w1 args⟩, inst_of C0 hM' w2, C0.w w5 args⟩ hpre rfl hlen hsz hstk hcat hd hf
  · obtain ⟨w1, w2, w3, w4, rfl, w5, w6⟩ := hw
    have hy : mtY M' = ⟨(mtY M').cls, (mtY M').name, (mtY M').desc⟩ := rfl
    exact vx_runU (owner := (mtY M').cls) (x := mtY M') (fixC C0) (hcm ρ) ⟨hbk, hcode, hini, nMH hM', plen hM' w3, C0.w w1 args, C0.w w6 args, va_Decl.of (inst_of (args := args) C0 hM' w2) hcode, C0.w w5 args, inst_of C0 hM' w2⟩ hpre rfl hlen hsz hstk hcat hd hf
  · obtain ⟨w1, rfl, rfl, rfl, rfl⟩ := hw
    have hl8 : (Cond.methodLink (mtY M).cls 549 ⟨"java/lang/AbstractStringBuilder", "length", "()I"⟩).before args s = true := by
      rw [w1]
      exact C0.w (i := 336) rfl args
    exact vx_runU (owner := "java/lang/AbstractStringBuilder") (x := ⟨"java/lang/AbstractStringBuilder", "length", "()I"⟩) (fixC C0) (hcm ρ) ⟨hbk, hcode, hini, ⟨by decide, by decide⟩, fun sig h => by
      have h9 : (parseMethodDescriptor "()I").map (fun d => d.parameters.length) = some 0 := by decide +kernel
      rw [h] at h9
      exact (Option.some.inj h9).symm, hl8, C0.w (i := 1086) rfl args, va_Decl.of (C0.w (i := 1084) rfl args) (C0.w (i := 1083) rfl args), C0.w (i := 1085) rfl args, inst_of C0 hM' rfl⟩ hpre rfl hlen hsz hstk hcat hd hf
  · obtain ⟨w1, w2, w3, w4, w5⟩ := hw
    rw [w5] at hbk hcode
    exact vx_runI (fixC C0) (hcm ρ) ⟨⟨hbk.1, hbk.2.1, hbk.2.2.1, hbk.2.2.2.1, hbk.2.2.2.2.1, hbk.2.2.2.2.2, hcode, hini, nMH hM', plen hM' w3, C0.w w1 args⟩, w4, inst_of C0 hM' w2⟩ ⟨hpre.1, hpre.2.2⟩ rfl hlen hsz hstk hcat hd hf
  · obtain ⟨w1, w2, w3, w4, w5⟩ := hw
    rw [w5] at hbk hcode
    exact vx_runIN (fixC C0) (hcm ρ) ⟨⟨hbk, hcode, hini, nMH hM', plen hM' w3, C0.w w1 args⟩, w4, inst_of C0 hM' w2⟩ ⟨hpre.1, hpre.2.2⟩ rfl hlen hsz hstk hcat hd hf
  · obtain ⟨w1, w2, w3, w4, w5, rfl, w7, w8⟩ := hw
    refine vx_runSU (ClassAt_ok C0 ha) (fixC C0) (hcm ρ) ⟨hbk, C0.w w1 args, C0.w w8 args, ?_, inst_of C0 hM' w2, hini, hcode, w7, plen hM' w3⟩ hpre rfl hlen hsz hstk hcat hd hf
    rw [w4, w5]
    exact C0.w (i := 1436) rfl args
end STEP12
