/-! SOUNDNESS: anewarray, checkcast, Object.<init>, Math -/
section STEP8
variable {K : KX} {M : Nat} {p : Program} {l : Launch} {e : Env} {R : Room} {s : State} {m : MethodId} {args : Array Value} {below : List Frame} {meth : Method} {c : Code} {Q : State → Prop} {S0 : SS} {ρ0 ρ' : OId → Nat}
variable {ρ : OId → Nat} {H H0 H1 : Heap} {locs locs1 : List Loc} {ls : Array Slot} {L : List (Option AV)} {L2 : List (Nat × AV)} {St : List AV} {S S' : SS} {pc n : Nat} {z : Int} {r : Nat × Nat × Nat × Nat}
theorem Cx.ao (C0 : Cx K M p l s m meth c) : va_AO "FrequencyOffice$Station" s ∧ va_AO "FrequencyOffice$Books" s := C0.2.2.2.2.1.2.2.2.2.2.2.2.2.2.2.2.2.2.2.2.2.2.2
theorem g_anewarray {i a zz : Nat} {n9 : Int32} {o : OId} (C0 : Cx K M p l s m meth c) (hd : decode (mtC M) pc = .ok (.anewarray i, 3)) (h0 : ¬ n9 < 0) (h1 : ¬ 65536 < n9.toNatClampNeg) (hm : mkA S (if a = 0 then kSt else kBk) n9.toNatClampNeg = some (o, S')) (hw : wAt zz = some (.classLink (mtY M).cls i (if a = 0 then "FrequencyOffice$Station" else "FrequencyOffice$Books"))) (hcells : cel S' - cel S0 ≤ R.cells) (hslots : slo S' - slo S0 ≤ R.slots) (k : Gd K M p l e R s m args below meth c Q S0 ρ0 (pc + 3, L, L2, aR o :: St, S')) : Gd K M p l e R s m args below meth c Q S0 ρ0 (pc, L, L2, aI n9 :: St, S) := by
  intro ρ H locs ls F
  obtain ⟨nx9, ns, rfl, hk, hro, hf, hn, hn2, hns⟩ := mkA_spec F.1.2.1 hm
  have e1 : cel (mk S o nx9 ns n9.toNatClampNeg) - cel S0 = cel S - cel S0 + 1 := sub_1 F.1.2.2.2.1
  have e2 : slo (mk S o nx9 ns n9.toNatClampNeg) - slo S0 = slo S - slo S0 + n9.toNatClampNeg := sub_1 F.1.2.2.2.2.1
  rw [e1] at hcells
  rw [e2] at hslots
  have fin : ∀ (t0 : Nat) (C : String), kOf o = .inr (.object C, n9.toNatClampNeg) → (xTy K)[t0]? = some (xt K (.object C), .object C) → (Cond.classLink (mtY M).cls i C).before args s = true → va_AO C s → W p l e R s m args below meth c H locs (cel S - cel S0) (slo S - slo S0) Q (F0 m pc ls (.int n9 :: St.map (av K ρ))) := by
    intro t0 C hk ht0 hl hao
    refine va_newq C0.1 C0.2.1 C0.2.2.2.1 hl hao C0.vk F.1.1.1 F.1.1.2 F.1.2.2.1 C0.hA h0 rfl (by omega) hcells hslots hd fun q cA H1 hK1 hP1 hD1 hS1 => ?_
    have hcA : cA = xt K (.object C) := arr_cls hK1 ht0
    subst hcA
    obtain ⟨ρ', F', eS⟩ := F.pop.alloc hro hf hn hn2 hns hP1 hD1 hS1 (fun ρ' => elA_new hk)
    have kk := k ρ' H1 locs ls F'
    rw [e1, e2] at kk
    rw [← eS]
    exact kk
  have hl := C0.w hw args
  by_cases ha : a = 0
  · rw [if_pos ha] at hk hl
    exact fin 5 _ hk rfl hl C0.ao.1
  · rw [if_neg ha] at hk hl
    exact fin 6 _ hk rfl hl C0.ao.2
theorem Cx.na {ty : FieldType} (C0 : Cx K M p l s m meth c) {t0 : Nat} (ht : (xTy K)[t0]? = some (xt K ty, ty)) (hty : ∀ C, ty ≠ .object C) : s.vm.findClass ("[" ++ ty.toString) = some (xt K ty) := by
  have h := (C0.vk.2 t0 _ ht).2
  cases ty with
  | object C => exact absurd rfl (hty C)
  | _ => exact h
theorem g_checkcast {i zz : Nat} {o : OId} (C0 : Cx K M p l s m meth c) (hd : decode (mtC M) pc = .ok (.checkcast i, 3)) (hk : kOf o = .inr (.byte, n)) (hro : isRo o = false) (hw : wAt zz = some (.classLink (mtY M).cls i "[B")) (k : Gd K M p l e R s m args below meth c Q S0 ρ0 (pc + 3, L, L2, aR o :: St, S)) : Gd K M p l e R s m args below meth c Q S0 ρ0 (pc, L, L2, aR o :: St, S) := by
  intro ρ H locs ls F
  have kk := k ρ H locs ls F
  have hlive : o ∈ lv S := F.live (F.t1.1 o rfl) hro
  obtain ⟨j, hj, hjw⟩ := ws_at (K := K) (ρ := ρ) hlive
  rw [elem_arr hk] at hjw
  have kk2 : W p l e R s m args below meth c H locs (cel S - cel S0) (slo S - slo S0) Q (F0 m (pc + 3) ls (av K ρ (aR o) :: St.map (av K ρ))) := kk
  show W p l e R s m args below meth c H locs _ _ Q (F0 m pc ls (av K ρ (aR o) :: St.map (av K ρ)))
  rw [av_ref (isRo_48 hro), ad_live hro] at kk2 ⊢
  exact va_castA C0.1 C0.2.1 C0.2.2.2.1 (C0.w hw args) F.1.1.1 j hjw (C0.na (t0 := 2) rfl (fun C h => by cases h)) hd kk2
theorem Fs.lz (F : Fs K M S0 ρ0 H0 ρ H locs ls L L2 St S) (C0 : Cx K M p l s m meth c) : c.maxLocals = ls.size := C0.2.2.1.trans F.2.1.1.1.symm
end STEP8
