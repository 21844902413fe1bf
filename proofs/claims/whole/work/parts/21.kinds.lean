/-! SOUNDNESS: calls, kind by kind -/
def kchk (r : Nat × Nat × Nat × Nat) : Bool := decide (311 ≤ r.1) || decide (20 ≤ r.2.2.1) || decide (0 < nfl r.2.2.2)
def tchk2 (q : Nat × IE) : Bool := match q.2.1 with
  | .invokevirtual _ => kchk q.2.2.2.1
  | .invokespecial _ => kchk q.2.2.2.1
  | _ => true
set_option maxRecDepth 100000 in
theorem tchk2_all : (mT.all fun row => row.all fun e => e.2.2.2.2.2.all fun l => l.all tchk2) = true := by decide +kernel
theorem tchk2_of {M pc : Nat} {q : IE} (h : insAt M pc = some q) : tchk2 (pc, q) = true := by
  obtain ⟨row, hr, he⟩ := mE_mem M
  unfold insAt at h
  have hm := lk_mem h
  by_cases hz : pc / 64 < (mtI M).length
  · rw [List.getD_eq_getElem?_getD, List.getElem?_eq_getElem hz] at hm
    exact List.all_eq_true.mp (List.all_eq_true.mp (List.all_eq_true.mp (List.all_eq_true.mp tchk2_all row hr) _ he) _ (List.getElem_mem hz)) _ hm
  · rw [List.getD_eq_getElem?_getD, List.getElem?_eq_none (Nat.le_of_not_lt hz)] at hm
    exact absurd hm List.not_mem_nil
theorem stT_f {M : Nat} (h : stT.getD M true = false) : ¬ stT.getD M false = true := by
  rw [List.getD_eq_getElem?_getD] at h ⊢
  cases hq : stT[M]? with
  | none => rw [hq] at h; cases h
  | some b => rw [hq] at h; exact fun z => by cases h; cases z
theorem split_recv {St : List AV} {na : Nat} {o : OId} (h : na + 1 ≤ St.length) (hg : St.getD na aN = .inr o) : St = St.take na ++ aR o :: St.drop (na + 1) ∧ (St.take (na + 1)).reverse = aR o :: (St.take na).reverse := by
  have h1 : na < St.length := h
  have h2 : St[na] = aR o := by
    rw [List.getD_eq_getElem?_getD, List.getElem?_eq_getElem h1] at hg
    exact hg
  have h3 : St.drop na = aR o :: St.drop (na + 1) := by rw [List.drop_eq_getElem_cons h1, h2]
  refine ⟨?_, ?_⟩
  · rw [← h3, List.take_append_drop]
  · rw [List.take_succ_eq_append_getElem h1, h2, List.reverse_append]
    rfl
section STEP11
variable {K : KX} {M : Nat} {p : Program} {l : Launch} {e : Env} {R : Room} {s : State} {m : MethodId} {args : Array Value} {below : List Frame} {meth : Method} {c : Code} {Q : State → Prop} {S0 : SS} {ρ0 ρ' : OId → Nat}
variable {ρ : OId → Nat} {H H0 H1 : Heap} {locs locs1 : List Loc} {ls : Array Slot} {L : List (Option AV)} {L2 : List (Nat × AV)} {St : List AV} {S S' : SS} {pc n : Nat} {z : Int} {r : Nat × Nat × Nat × Nat}
theorem recv_ok {o : OId} {a : Nat} (C0 : Cx K M p l s m meth c) (F : Fs K M S0 ρ0 s.heap ρ H locs ls L L2 St S) (ho : okA K (lv S) (aR o)) (hk : kOf o = .inl a) (ha : 0 < nfl a) : (¬ o.1 = 48) ∧ ∃ cell : Cell, H[ad K ρ o]? = some cell ∧ cell.vm.isStatics = false ∧ s.vm.findClass (clC a).1 = some cell.cls := by
  rcases ho o rfl with h | h
  · have hro := F.1.2.1.2.1 o h
    obtain ⟨j, hj, hjw⟩ := ws_at (K := K) (ρ := ρ) h
    rw [elem_obj hk] at hjw
    obtain ⟨hc1, hc2, -⟩ := cl_ok a ha
    refine ⟨isRo_48 hro, ?_⟩
    rw [ad_live hro]
    exact va_recv C0.vk F.1.1.1 hc1 hjw
  · obtain ⟨rfl, i, hi, rfl⟩ := kOf_ro h hk ha
    obtain ⟨cell, h1, h2, h3, h4⟩ := (C0.str.1 i hi).1
    refine ⟨(by decide : ¬ (0 : Nat) = 48), cell, ?_, h2, h3⟩
    show H[xk K i]? = some cell
    rw [F.1.2.2.1.2.1 _ (Array.getElem?_eq_some_iff.mp h1).1 h4]
    exact h1
theorem ws_hold {M' : Nat} (C0 : Cx K M p l s m meth c) (hM' : M' < 311) : ∀ w ∈ [codeW M'], ∀ (a' : Array Value) (U : State), s.WarmedH U.vm → w.before a' U = true := by
  intro w hw a' U hW
  rw [List.mem_singleton.mp hw]
  exact (C0.gp.warm hW) _ (wAt_ok (mP_of hM').1) a'
theorem plen {M' : Nat} (hM' : M' < 311) (hn : npT.getD M' 99 = n) : ∀ sig, parseMethodDescriptor (mtY M').desc = some sig → n = sig.parameters.length := by
  intro sig h
  have h2 := (mP_of hM').2.2.2.1.2.2
  rw [h] at h2
  rw [← hn]
  exact (Option.some.inj h2).symm
theorem nMH {M' : Nat} (hM' : M' < 311) : (mtY M').cls ≠ "java/lang/invoke/MethodHandle" ∧ (mtY M').cls ≠ "java/lang/invoke/VarHandle" := ⟨(mP_of hM').2.2.2.1.1, (mP_of hM').2.2.2.1.2.1⟩
theorem pre_ok {as : List AV} (C0 : Cx K M p l s m meth c) (F : Fs K M S0 ρ0 s.heap ρ H locs ls L L2 St S) (has : ∀ v ∈ as, okA K (lv S) v) : FrameBlind (PcK K ρ S as) ∧ ∀ U : State, U.heap = H → s.WarmedH U.vm → PcK K ρ S as (as.map (av K ρ)).toArray U :=
  ⟨PcK.blind, fun U hU hW => ⟨rfl, by rw [hU]; exact C0.2.2.2.2.1.moved hW F.1.2.2.1.1 (fun q h1 h2 => F.1.2.2.1.2.1 q h1 h2), by rw [hU]; exact F.1.1, F.1.2.1, has⟩⟩
theorem fixC (C0 : Cx K M p l s m meth c) : CallFix p m c (mtC M) (mtL M) s args GB (mtY M).cls := ⟨C0.1, C0.2.1, C0.2.2.1, C0.2.2.2.1, C0.ts args⟩
theorem hh_code {M' : Nat} (h : hhT.getD M' [] = []) : codeW M' = .code (mtY M') (mtC M') (mtL M') (mtR M') := by
  unfold codeW
  rw [h]
/-- kind 0: a static method -/
theorem g_k0 {i M' na zz d : Nat} {o9 : Out} (C0 : Cx K M p l s m meth c) (hd : decode (mtC M) pc = .ok (.invokestatic i, 3)) (hM' : M' < 311) (hw : wAt zz = some (.methodLink (mtY M).cls i (mtY M'))) (hst : stT.getD M' false = true) (hnp : npT.getD M' 99 = na) (hl1 : na ≤ St.length) (hl2 : St.length ≤ na + 4) (hR : d + 11 ≤ R.frames ∧ 64 * d + 264 ≤ R.locals) (hcm : CM K l d M' (St.take na).reverse S o9) (hmono : cel S ≤ cel o9.2 ∧ slo S ≤ slo o9.2) (hcells : cel o9.2 - cel S0 ≤ R.cells) (hslots : slo o9.2 - slo S0 ≤ R.slots)
    (kv : ∀ v, o9.1 = .inl v → Gd K M p l e R s m args below meth c Q S0 ρ0 (pc + 3, L, L2, v.toList ++ St.drop na, o9.2)) (kx : ∀ E, o9.1 = .inr E → GdX K M p l e R s m args below meth c Q S0 ρ0 E pc L L2 o9.2) : Gd K M p l e R s m args below meth c Q S0 ρ0 (pc, L, L2, St, S) := by
  intro ρ H locs ls F
  obtain ⟨p1, p2, p3, p4, p5, p6⟩ := mP_of hM'
  rw [if_pos hst] at p2
  have F' : Fs K M S0 ρ0 s.heap ρ H locs ls L L2 (St.drop na) S := F.stk (fun v hv => F.2.2 v (List.mem_of_mem_drop hv))
  have hpre := pre_ok (as := (St.take na).reverse) C0 F (fun v hv => F.2.2 v (List.mem_of_mem_take (List.mem_reverse.mp hv)))
  have hcat := cats4 (K := K) (ρ := ρ) (St := St.drop na) (by rw [List.length_drop]; omega)
  have hlen : ((St.take na).reverse.map (av K ρ)).length = na := by rw [List.length_map, List.length_reverse, List.length_take]; omega
  have hstk : St.map (av K ρ) = ((St.take na).reverse.map (av K ρ)).reverse ++ (St.drop na).map (av K ρ) := by rw [List.map_reverse, List.reverse_reverse, ← List.map_append, List.take_append_drop]
  have hf : cel S - cel S0 + (cel o9.2 - cel S) ≤ R.cells ∧ slo S - slo S0 + (slo o9.2 - slo S) ≤ R.slots := by
    rw [sub_3 F.1.2.2.2.1 hmono.1, sub_3 F.1.2.2.2.2.1 hmono.2]
    exact ⟨hcells, hslots⟩
  have hroom : d + 10 + 1 ≤ R.frames ∧ 8 + (mtL M' + 11) + (64 * d + 200) ≤ R.locals := by omega
  refine run_go F' (a := ((St.take na).reverse.map (av K ρ)).toArray) ?_ kv kx
  cases hh : hhT.getD M' [] with
  | nil =>
    have hcw := hh_code hh
    exact vx_runS (fixC C0) (hcm ρ) ⟨⟨rfl, rfl, hroom.1, hroom.2, ws_hold C0 hM', by rw [hcw]; exact List.mem_singleton.mpr rfl, by rw [← hcw]; exact C0.w p1 args, C0.w p3 args, nMH hM', plen hM' hnp, C0.w hw args⟩, C0.w p2 args⟩ hpre rfl hlen F.2.1.1.1 hstk (by show 2 * 0 + _ ≤ 8; omega) hd hf
  | cons h0 hs0 =>
    have hcw : codeW M' = .codeWith (mtY M') (mtC M') (mtL M') (mtR M') (h0 :: hs0) := by
      unfold codeW
      rw [hh]
    exact vx_runSX (hh := h0 :: hs0) (fixC C0) (hcm ρ) ⟨⟨rfl, rfl, hroom.1, hroom.2, ws_hold C0 hM', by rw [hcw]; exact List.mem_singleton.mpr rfl⟩, by rw [← hcw]; exact C0.w p1 args, C0.w p3 args, nMH hM', plen hM' hnp, C0.w hw args, C0.w p2 args⟩ hpre rfl hlen F.2.1.1.1 hstk (by show 2 * 0 + _ ≤ 8; omega) hd hf
/-- kind 1: a static method of a nest mate -/
theorem g_k1 {i M' na zz d : Nat} {o9 : Out} (C0 : Cx K M p l s m meth c) (hd : decode (mtC M) pc = .ok (.invokestatic i, 3)) (hM' : M' < 311) (hh : hhT.getD M' [] = []) (hw : wAt zz = some (.methodLinkNest (mtY M).cls i (mtY M') "FrequencyOffice")) (hst : stT.getD M' false = true) (hnp : npT.getD M' 99 = na) (hl1 : na ≤ St.length) (hl2 : St.length ≤ na + 4) (hR : d + 11 ≤ R.frames ∧ 64 * d + 264 ≤ R.locals) (hcm : CM K l d M' (St.take na).reverse S o9) (hmono : cel S ≤ cel o9.2 ∧ slo S ≤ slo o9.2) (hcells : cel o9.2 - cel S0 ≤ R.cells) (hslots : slo o9.2 - slo S0 ≤ R.slots)
    (kv : ∀ v, o9.1 = .inl v → Gd K M p l e R s m args below meth c Q S0 ρ0 (pc + 3, L, L2, v.toList ++ St.drop na, o9.2)) (kx : ∀ E, o9.1 = .inr E → GdX K M p l e R s m args below meth c Q S0 ρ0 E pc L L2 o9.2) : Gd K M p l e R s m args below meth c Q S0 ρ0 (pc, L, L2, St, S) := by
  intro ρ H locs ls F
  obtain ⟨p1, p2, p3, p4, p5, p6⟩ := mP_of hM'
  rw [if_pos hst] at p2
  have F' : Fs K M S0 ρ0 s.heap ρ H locs ls L L2 (St.drop na) S := F.stk (fun v hv => F.2.2 v (List.mem_of_mem_drop hv))
  have hpre := pre_ok (as := (St.take na).reverse) C0 F (fun v hv => F.2.2 v (List.mem_of_mem_take (List.mem_reverse.mp hv)))
  have hcat := cats4 (K := K) (ρ := ρ) (St := St.drop na) (by rw [List.length_drop]; omega)
  have hlen : ((St.take na).reverse.map (av K ρ)).length = na := by rw [List.length_map, List.length_reverse, List.length_take]; omega
  have hstk : St.map (av K ρ) = ((St.take na).reverse.map (av K ρ)).reverse ++ (St.drop na).map (av K ρ) := by rw [List.map_reverse, List.reverse_reverse, ← List.map_append, List.take_append_drop]
  have hf : cel S - cel S0 + (cel o9.2 - cel S) ≤ R.cells ∧ slo S - slo S0 + (slo o9.2 - slo S) ≤ R.slots := by
    rw [sub_3 F.1.2.2.2.1 hmono.1, sub_3 F.1.2.2.2.2.1 hmono.2]
    exact ⟨hcells, hslots⟩
  have hroom : d + 10 + 1 ≤ R.frames ∧ 8 + (mtL M' + 11) + (64 * d + 200) ≤ R.locals := by omega
  refine run_go F' (a := ((St.take na).reverse.map (av K ρ)).toArray) ?_ kv kx
  have hcw := hh_code hh
  exact vx_runSN (fixC C0) (hcm ρ) ⟨⟨⟨rfl, rfl, hroom.1, hroom.2, ws_hold C0 hM', by rw [hcw]; exact List.mem_singleton.mpr rfl⟩, by rw [← hcw]; exact C0.w p1 args, C0.w p3 args, nMH hM', plen hM' hnp, C0.w hw args⟩, C0.w p2 args, trivial⟩ hpre rfl hlen F.2.1.1.1 hstk (by show 2 * 0 + _ ≤ 8; omega) hd hf
end STEP11
