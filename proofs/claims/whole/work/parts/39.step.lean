/-! SOUNDNESS: one instruction, whichever it is -/
def kchk3 (hs : List HE) (k q1 : Nat) : Bool := (hs.isEmpty || !(k == 1)) && (k == 0 || decide (20 ≤ k) || (hhT.getD q1 []).isEmpty)
def tchk3 (hs : List HE) (q : Nat × IE) : Bool := match q.2.1 with
  | .new _ => !(q.2.2.2.1.2.2.1 == 1) || decide (q.2.2.2.1.1 < 6)
  | .invokestatic _ => kchk3 hs q.2.2.2.1.2.2.1 q.2.2.2.1.1
  | .invokevirtual _ => kchk3 hs q.2.2.2.1.2.2.1 q.2.2.2.1.1
  | .invokespecial _ => kchk3 hs q.2.2.2.1.2.2.1 q.2.2.2.1.1
  | _ => true
set_option maxRecDepth 100000 in
theorem tchk3_all : (mT.all fun row => row.all fun e => e.2.2.2.2.2.all fun l => l.all (tchk3 e.2.2.2.2.1)) = true := by decide +kernel
theorem tchk3_of {M pc : Nat} {q : IE} (h : insAt M pc = some q) : tchk3 (mtH M) (pc, q) = true := by
  obtain ⟨row, hr, he⟩ := mE_mem M
  unfold insAt at h
  have hm := lk_mem h
  by_cases hz : pc / 64 < (mtI M).length
  · rw [List.getD_eq_getElem?_getD, List.getElem?_eq_getElem hz] at hm
    exact List.all_eq_true.mp (List.all_eq_true.mp (List.all_eq_true.mp (List.all_eq_true.mp tchk3_all row hr) _ he) _ (List.getElem_mem hz)) _ hm
  · rw [List.getD_eq_getElem?_getD, List.getElem?_eq_none (Nat.le_of_not_lt hz)] at hm
    exact absurd hm List.not_mem_nil
theorem kc_0 {hs : List HE} {k q1 : Nat} (h : kchk3 hs k q1 = true) (h0 : ¬ k = 0) (h20 : k < 20) : (k = 1 → hs = []) ∧ hhT.getD q1 [] = [] := by
  simp only [kchk3, Bool.and_eq_true, Bool.or_eq_true, Bool.not_eq_true', beq_eq_false_iff_ne, beq_iff_eq, decide_eq_true_eq, List.isEmpty_iff] at h
  obtain ⟨h1, h2⟩ := h
  refine ⟨fun hk => ?_, ?_⟩
  · rcases h1 with h1 | h1
    · exact h1
    · exact absurd hk h1
  · rcases h2 with (h2 | h2) | h2
    · exact absurd h2 h0
    · omega
    · exact h2
theorem hz_nil {M : Nat} (hM : M < 311) (h : mtH M = []) : hhT.getD M [] = [] := by
  have hb := hR_of hM
  simp only [hRm, Bool.and_eq_true] at hb
  have h1 := hb.1
  rw [h] at h1
  cases hh : hhT.getD M [] with
  | nil => rfl
  | cons q r => rw [hh] at h1; cases h1
theorem nt_of {M : Nat} {c : Code} (hM : M < 311) (ht : c.exceptionTable.toList = tableOf (hhT.getD M [])) (h : mtH M = []) : ∀ y ∈ c.exceptionTable.toList, False := by
  rw [ht, hz_nil hM h]
  intro y hy
  exact absurd hy List.not_mem_nil
/-! a String constant by its wide instruction -/
section LDCW
variable {K : KX} {M : Nat} {p : Program} {l : Launch} {e : Env} {R : Room} {s : State} {m : MethodId} {args : Array Value} {below : List Frame} {meth : Method} {c : Code} {Q : State → Prop} {S0 : SS} {ρ0 : OId → Nat}
variable {L : List (Option AV)} {L2 : List (Nat × AV)} {St : List AV} {S : SS} {pc len : Nat} {z : Int} {r : Nat × Nat × Nat × Nat} {cm : Nat → List AV → SS → Option Out} {hs : List HE} {rt : Option FieldType} {g' : Cfg}
theorem lv_ldcSW {H : Heap} {locs : List Loc} {cells slots : Nat} {cc : ByteArray} {ls : Array Slot} {rest : List Value} (hexec : p.tables.exec = Jvm.exec) (hb : c.code = cc) {own tx : String} {index q : Nat} (hown : s.vm.findClass own = some m.cls) (hZ : vk_R own index tx q s) (hdg : decode cc pc = .ok (.ldc_w index, 3)) (k : W p l e R s m args below meth c H locs cells slots Q (F0 m (pc + 3) ls (.ref q :: rest))) : W p l e R s m args below meth c H locs cells slots Q (F0 m pc ls rest) := by
  intro T hT X
  obtain ⟨t, a1, b1⟩ := k T hT X
  exact ⟨t, X.ldcStringW hexec hown (text := tx) (a := q) hZ.1 hZ.2 (g := F0 m pc ls rest) rfl (by rw [hb]; exact hdg) t a1, b1⟩
theorem g_ldcSW {j : Nat} (C0 : Cx K M p l s m meth c) (hj : j < 3) (hcl : (mtY M).cls = "FrequencyOffice") (hd : decode (mtC M) pc = .ok (.ldc_w (([312, 317, 319] : List Nat).getD j 0), 3)) (k : Gd K M p l e R s m args below meth c Q S0 ρ0 (pc + 3, L, L2, aR (0, j, 1) :: St, S)) : Gd K M p l e R s m args below meth c Q S0 ρ0 (pc, L, L2, St, S) := by
  intro ρ H locs ls F
  obtain ⟨-, -, -, -, -, -, -, -, -, -, -, -, -, -, -, b7, -⟩ := C0.2.2.2.2.1
  have hown := C0.2.2.2.1
  rw [hcl] at hown
  exact lv_ldcSW C0.1 C0.2.1 hown (b7 j hj) hd (k ρ H locs ls (F.stk (ok_c (okA_inr (Or.inr (Or.inr (Or.inr (Or.inr (Or.inr (Or.inl ⟨j, hj, rfl⟩))))))) F.2.2)))
theorem sd_ldcw {i : Nat} (C0 : Cx K M p l s m meth c) (hd : decode (mtC M) pc = .ok (.ldc_w i, len)) (hl : len = iln (.ldc_w i) len) (h : stepI cm hs rt pc (some (.ldc_w i, len, r, z)) L L2 St S = some (.inl g')) (hlp : lP (mE M) pc (.ldc_w i, len, r, z)) (k : Gd K M p l e R s m args below meth c Q S0 ρ0 g') : Gd K M p l e R s m args below meth c Q S0 ρ0 (pc, L, L2, St, S) := by
  have hn : len = 3 := hl
  subst hn
  obtain ⟨a, r2, r3, r4⟩ := r
  match a, h, hlp with
  | 0, h, _ => cases h
  | 1, h, hw =>
    cases h
    obtain ⟨h1, h2, h3⟩ := hw
    have hd2 := hd
    rw [(h3 : i = ([312, 317, 319] : List Nat).getD r2 0)] at hd2
    exact g_ldcSW C0 h2 h1 hd2 k
  | _ + 2, h, _ => cases h
end LDCW
section STEP30
variable {K : KX} {M : Nat} {p : Program} {l : Launch} {e : Env} {R : Room} {s : State} {m : MethodId} {args : Array Value} {below : List Frame} {meth : Method} {c : Code} {Q : State → Prop} {S0 : SS} {ρ0 : OId → Nat}
variable {L : List (Option AV)} {L2 : List (Nat × AV)} {St : List AV} {S S' : SS} {pc i len zz d : Nat} {z : Int} {r : Nat × Nat × Nat × Nat} {cm : Nat → List AV → SS → Option Out} {hs : List HE} {rt : Option FieldType} {ins : Instr} {g' : Cfg} {o9 : Out}
theorem se_newA (C0 : Cx K M p l s m meth c) (h : stepI cm hs rt pc (some (.new i, len, r, z)) L L2 St S = some (.inr o9)) (hlp : lP (mE M) pc (.new i, len, r, z)) (hx : tchk3 hs (pc, (.new i, len, r, z)) = true) (hnt : ∀ y ∈ c.exceptionTable.toList, False) (hlk : meth.locks = false) (hR : 10 ≤ R.frames ∧ 200 ≤ R.locals) (hcells : cel o9.2 - cel S0 ≤ R.cells) (hslots : slo o9.2 - slo S0 ≤ R.slots) : Gd K M p l e R s m args below meth c (RQ K below ρ0 S0 o9 args s) S0 ρ0 (pc, L, L2, St, S) := by
  obtain ⟨a, r2, r3, r4⟩ := r
  match r3, h, hlp, hx with
  | 0, h, _, _ =>
    replace h : (match mkC S a with | some (o, S') => nx (pc + 3) L L2 (aR o :: St) S' | none => none) = some (.inr o9) := h
    split at h
    · simp only [nx] at h
      cases h
    · cases h
  | 1, h, hlp, hx =>
    have h6 : a < 6 := of_decide_eq_true hx
    replace h : (if hs = [] ∧ St.length ≤ 4 then some (Sum.inr (Sum.inr (exN a), bump S 1 6)) else none) = some (.inr o9) := h
    split at h
    · rename_i hq
      cases h
      obtain ⟨h1, is, ic, tx, w1, w2, hts⟩ := hlp
      by_cases h3 : a = 3
      · subst h3
        exact g_throwN C0 h1 hts hnt hlk hq.2 hR hcells hslots
      · exact g_throwS C0 h1 (by omega) hts hnt hlk hq.2 hR hcells hslots
    · cases h
  | _ + 2, h, _, _ => cases h
theorem inv_99 {q1 q2 q4 k9 : Nat} {x : Cfg ⊕ Out} (hk : k9 = 99) : ¬ inv cm hs pc (q1, q2, k9, q4) L L2 St S = some x := by
  subst hk
  intro h
  replace h : (if q1 < 311 ∧ 99 < 9 ∧ q2 + 1 ≤ St.length ∧ St.length ≤ q2 + 5 ∧ rcv q4 (St.getD q2 aN) = true then aft hs pc L L2 (St.drop (q2 + 1)) (cm q1 (St.take (q2 + 1)).reverse S) else none) = some x := h
  split at h
  · rename_i hq
    omega
  · cases h
theorem inv_lt {q1 q2 q4 k9 : Nat} {x : Cfg ⊕ Out} (hk : k9 = 2 ∨ k9 = 3 ∨ k9 = 4 ∨ k9 = 8 ∨ k9 = 5 ∨ k9 = 6 ∨ k9 = 7) (h : inv cm hs pc (q1, q2, k9, q4) L L2 St S = some x) : q1 < 311 := by
  by_cases hq : q1 < 311
  · exact hq
  · exfalso
    rcases hk with rfl | rfl | rfl | rfl | rfl | rfl | rfl <;> exact absurd ((if_neg (fun z => hq z.1)).symm.trans h : (none : Option (Cfg ⊕ Out)) = some x) (by intro z; cases z)
theorem rc_pos {q1 q2 q4 k9 : Nat} {x : Cfg ⊕ Out} (hk : k9 = 2 ∨ k9 = 3 ∨ k9 = 4 ∨ k9 = 8 ∨ k9 = 5 ∨ k9 = 6 ∨ k9 = 7) (h : inv cm hs pc (q1, q2, k9, q4) L L2 St S = some x) (hc : kchk (q1, q2, k9, q4) = true) : 0 < nfl q4 := by
  have hlt := inv_lt hk h
  simp only [kchk, Bool.or_eq_true, decide_eq_true_eq] at hc
  rcases hc with (hc | hc) | hc
  · omega
  · omega
  · exact hc
/-- behind an exception that nothing catches: no handlers -/
theorem inv_z (h : inv cm hs pc r L L2 St S = some (.inr o9)) : hs = [] := by
  unfold inv at h
  split at h
  · split at h
    · exact aft_z h
    · cases h
  · split at h
    · exact aft_z h
    · cases h
  all_goals first
    | (split at h
       · exact aft_z h
       · cases h)
    | (exfalso
       (repeat' split at h) <;> first | (cases h; done) | (simp only [nx] at h; cases h))
theorem st_is (C0 : Cx K M p l s m meth c) (ih : IH K l d cm) (hX : mtH M = [] ∨ M < 311 ∧ c.exceptionTable.toList = tableOf (hhT.getD M [])) (hd : decode (mtC M) pc = .ok (.invokestatic i, 3)) (h : inv cm (mtH M) pc r L L2 St S = some (.inl g')) (hlp : cP (mtY M).cls i r zz) (hv : vK 0 r.2.2.1) (h3 : kchk3 (mtH M) r.2.2.1 r.1 = true) (hR : d + 11 ≤ R.frames ∧ 64 * d + 264 ≤ R.locals) (hcells : cel g'.2.2.2.2 - cel S0 ≤ R.cells) (hslots : slo g'.2.2.2.2 - slo S0 ≤ R.slots) (k : Gd K M p l e R s m args below meth c Q S0 ρ0 g') : Gd K M p l e R s m args below meth c Q S0 ρ0 (pc, L, L2, St, S) := by
  obtain ⟨q1, q2, k9, q4⟩ := r
  have hR1 : 1 ≤ R.frames ∧ 100 ≤ R.locals := by omega
  rcases hv with hk | hk | hk | hk | hk | hk | hk <;> replace hk : k9 = _ := hk
  · subst hk
    exact sd_k0H C0 ih hX hd h hlp hR hcells hslots k
  · subst hk
    obtain ⟨hz, hz2⟩ := kc_0 h3 (fun q => by cases q) (show 1 < 20 by decide)
    rw [hz rfl] at h
    exact sd_k1 C0 ih hd h hz2 hlp hR hcells hslots k
  · subst hk
    exact sd_acopy C0 hd h hlp hR1 hcells hslots k
  · subst hk
    exact sd_max C0 hd h hlp hR1 hcells hslots k
  · subst hk
    exact sd_min C0 hd h hlp hR1 hcells hslots k
  · subst hk
    exact sd_abs C0 hd h hlp hR1 hcells hslots k
  · exact absurd h (inv_99 hk)
theorem st_iv (C0 : Cx K M p l s m meth c) (ih : IH K l d cm) (hX : mtH M = [] ∨ M < 311 ∧ c.exceptionTable.toList = tableOf (hhT.getD M [])) (hd : decode (mtC M) pc = .ok (.invokevirtual i, 3)) (h : inv cm (mtH M) pc r L L2 St S = some (.inl g')) (hlp : cP (mtY M).cls i r zz) (hv : vK 1 r.2.2.1) (h2 : kchk r = true) (h3 : kchk3 (mtH M) r.2.2.1 r.1 = true) (hR : d + 11 ≤ R.frames ∧ 64 * d + 264 ≤ R.locals) (hcells : cel g'.2.2.2.2 - cel S0 ≤ R.cells) (hslots : slo g'.2.2.2.2 - slo S0 ≤ R.slots) (k : Gd K M p l e R s m args below meth c Q S0 ρ0 g') : Gd K M p l e R s m args below meth c Q S0 ρ0 (pc, L, L2, St, S) := by
  obtain ⟨q1, q2, k9, q4⟩ := r
  have hR1 : 1 ≤ R.frames ∧ 100 ≤ R.locals := by omega
  rcases hv with hk | hk | hk | hk | hk | hk <;> replace hk : k9 = _ := hk
  all_goals first
    | exact absurd h (inv_99 hk)
    | (subst hk; exact sd_clone C0 hd h hlp hR1 hcells hslots k)
    | (have hk7 : k9 = 2 ∨ k9 = 3 ∨ k9 = 4 ∨ k9 = 8 ∨ k9 = 5 ∨ k9 = 6 ∨ k9 = 7 := by omega
       have ha := rc_pos hk7 h h2
       exact sd_kvH C0 ih hX (Or.inl ⟨rfl, by omega⟩) hd h (kc_0 h3 (show ¬ k9 = 0 by omega) (show k9 < 20 by omega)).2 ha hlp hR hcells hslots k)
theorem st_ix (C0 : Cx K M p l s m meth c) (ih : IH K l d cm) (hX : mtH M = [] ∨ M < 311 ∧ c.exceptionTable.toList = tableOf (hhT.getD M [])) (hd : decode (mtC M) pc = .ok (.invokespecial i, 3)) (h : inv cm (mtH M) pc r L L2 St S = some (.inl g')) (hlp : cP (mtY M).cls i r zz) (hv : vK 2 r.2.2.1) (h2 : kchk r = true) (h3 : kchk3 (mtH M) r.2.2.1 r.1 = true) (hR : d + 11 ≤ R.frames ∧ 64 * d + 264 ≤ R.locals) (hcells : cel g'.2.2.2.2 - cel S0 ≤ R.cells) (hslots : slo g'.2.2.2.2 - slo S0 ≤ R.slots) (k : Gd K M p l e R s m args below meth c Q S0 ρ0 g') : Gd K M p l e R s m args below meth c Q S0 ρ0 (pc, L, L2, St, S) := by
  obtain ⟨q1, q2, k9, q4⟩ := r
  have hR1 : 1 ≤ R.frames ∧ 100 ≤ R.locals := by omega
  rcases hv with hk | hk | hk | hk | hk <;> replace hk : k9 = _ := hk
  all_goals first
    | exact absurd h (inv_99 hk)
    | (subst hk; exact sd_oinit C0 hd h hlp hR1 hcells hslots k)
    | (have hk7 : k9 = 2 ∨ k9 = 3 ∨ k9 = 4 ∨ k9 = 8 ∨ k9 = 5 ∨ k9 = 6 ∨ k9 = 7 := by omega
       have ha := rc_pos hk7 h h2
       exact sd_kvH C0 ih hX (Or.inr ⟨rfl, by omega⟩) hd h (kc_0 h3 (show ¬ k9 = 0 by omega) (show k9 < 20 by omega)).2 ha hlp hR hcells hslots k)
/-- the library's calls don't throw -/
theorem inv_lib {q1 q2 q4 k9 : Nat} (hk : k9 = 20 ∨ k9 = 21 ∨ k9 = 22 ∨ k9 = 23 ∨ k9 = 24 ∨ k9 = 25) : ¬ inv cm hs pc (q1, q2, k9, q4) L L2 St S = some (.inr o9) := by
  intro h
  rcases hk with rfl | rfl | rfl | rfl | rfl | rfl
  all_goals
    simp only [inv, nx] at h
    (repeat' split at h) <;> cases h
theorem en_is (C0 : Cx K M p l s m meth c) (ih : IH K l d cm) (hM : M < 311) (ht : c.exceptionTable.toList = tableOf (hhT.getD M [])) (hd : decode (mtC M) pc = .ok (.invokestatic i, 3)) (h : inv cm (mtH M) pc r L L2 St S = some (.inr o9)) (hlp : cP (mtY M).cls i r zz) (hv : vK 0 r.2.2.1) (h3 : kchk3 (mtH M) r.2.2.1 r.1 = true) (hR : d + 11 ≤ R.frames ∧ 64 * d + 264 ≤ R.locals) (hcells : cel o9.2 - cel S0 ≤ R.cells) (hslots : slo o9.2 - slo S0 ≤ R.slots) (hlk : meth.locks = false) : Gd K M p l e R s m args below meth c (RQ K below ρ0 S0 o9 args s) S0 ρ0 (pc, L, L2, St, S) := by
  obtain ⟨q1, q2, k9, q4⟩ := r
  have hz := inv_z h
  have hnt := nt_of hM ht hz
  rw [hz] at h
  rcases hv with hk | hk | hk | hk | hk | hk | hk <;> replace hk : k9 = _ := hk
  · subst hk
    exact se_k0 C0 ih hd h hlp hR hcells hslots hnt hlk
  · subst hk
    exact se_k1 C0 ih hd h (kc_0 h3 (fun q => by cases q) (show 1 < 20 by decide)).2 hlp hR hcells hslots hnt hlk
  · exact absurd h (inv_lib (by omega))
  · exact absurd h (inv_lib (by omega))
  · exact absurd h (inv_lib (by omega))
  · exact absurd h (inv_lib (by omega))
  · exact absurd h (inv_99 hk)
theorem en_iv (C0 : Cx K M p l s m meth c) (ih : IH K l d cm) (hM : M < 311) (ht : c.exceptionTable.toList = tableOf (hhT.getD M [])) (hd : decode (mtC M) pc = .ok (.invokevirtual i, 3)) (h : inv cm (mtH M) pc r L L2 St S = some (.inr o9)) (hlp : cP (mtY M).cls i r zz) (hv : vK 1 r.2.2.1) (h2 : kchk r = true) (h3 : kchk3 (mtH M) r.2.2.1 r.1 = true) (hR : d + 11 ≤ R.frames ∧ 64 * d + 264 ≤ R.locals) (hcells : cel o9.2 - cel S0 ≤ R.cells) (hslots : slo o9.2 - slo S0 ≤ R.slots) (hlk : meth.locks = false) : Gd K M p l e R s m args below meth c (RQ K below ρ0 S0 o9 args s) S0 ρ0 (pc, L, L2, St, S) := by
  obtain ⟨q1, q2, k9, q4⟩ := r
  have hz := inv_z h
  have hnt := nt_of hM ht hz
  rw [hz] at h
  rcases hv with hk | hk | hk | hk | hk | hk <;> replace hk : k9 = _ := hk
  all_goals first
    | exact absurd h (inv_99 hk)
    | exact absurd h (inv_lib (by omega))
    | (have hk7 : k9 = 2 ∨ k9 = 3 ∨ k9 = 4 ∨ k9 = 8 ∨ k9 = 5 ∨ k9 = 6 ∨ k9 = 7 := by omega
       have ha := rc_pos hk7 h h2
       exact se_kv C0 ih (Or.inl ⟨rfl, by omega⟩) hd h (kc_0 h3 (show ¬ k9 = 0 by omega) (show k9 < 20 by omega)).2 ha hlp hR hcells hslots hnt hlk)
theorem en_ix (C0 : Cx K M p l s m meth c) (ih : IH K l d cm) (hM : M < 311) (ht : c.exceptionTable.toList = tableOf (hhT.getD M [])) (hd : decode (mtC M) pc = .ok (.invokespecial i, 3)) (h : inv cm (mtH M) pc r L L2 St S = some (.inr o9)) (hlp : cP (mtY M).cls i r zz) (hv : vK 2 r.2.2.1) (h2 : kchk r = true) (h3 : kchk3 (mtH M) r.2.2.1 r.1 = true) (hR : d + 11 ≤ R.frames ∧ 64 * d + 264 ≤ R.locals) (hcells : cel o9.2 - cel S0 ≤ R.cells) (hslots : slo o9.2 - slo S0 ≤ R.slots) (hlk : meth.locks = false) : Gd K M p l e R s m args below meth c (RQ K below ρ0 S0 o9 args s) S0 ρ0 (pc, L, L2, St, S) := by
  obtain ⟨q1, q2, k9, q4⟩ := r
  have hz := inv_z h
  have hnt := nt_of hM ht hz
  rw [hz] at h
  rcases hv with hk | hk | hk | hk | hk <;> replace hk : k9 = _ := hk
  all_goals first
    | exact absurd h (inv_99 hk)
    | exact absurd h (inv_lib (by omega))
    | (have hk7 : k9 = 2 ∨ k9 = 3 ∨ k9 = 4 ∨ k9 = 8 ∨ k9 = 5 ∨ k9 = 6 ∨ k9 = 7 := by omega
       have ha := rc_pos hk7 h h2
       exact se_kv C0 ih (Or.inr ⟨rfl, by omega⟩) hd h (kc_0 h3 (show ¬ k9 = 0 by omega) (show k9 < 20 by omega)).2 ha hlp hR hcells hslots hnt hlk)
set_option maxHeartbeats 4000000 in
/-- one instruction: from its point to the next -/
theorem step_l (C0 : Cx K M p l s m meth c) (ih : IH K l d cm) (hX : mtH M = [] ∨ M < 311 ∧ c.exceptionTable.toList = tableOf (hhT.getD M [])) (hi : insAt M pc = some (ins, len, r, z)) (h : stepI cm (mtH M) (mtR M) pc (some (ins, len, r, z)) L L2 St S = some (.inl g')) (hR : d + 11 ≤ R.frames ∧ 64 * d + 264 ≤ R.locals) (hcells : cel g'.2.2.2.2 - cel S0 ≤ R.cells) (hslots : slo g'.2.2.2.2 - slo S0 ≤ R.slots) (k : Gd K M p l e R s m args below meth c Q S0 ρ0 g') : Gd K M p l e R s m args below meth c Q S0 ρ0 (pc, L, L2, St, S) := by
  have hip := ins_ok hi
  have htc := tchk_of hi
  have htc2 := tchk2_of hi
  have htc3 := tchk3_of hi
  have hd : decode (mtC M) pc = .ok (ins, len) := hip.1.1
  have hl : len = iln ins len := hip.1.2
  have hlp : lP (mE M) pc (ins, len, r, z) := hip.2
  clear hip
  cases ins
  case iadd => exact sd_iadd C0 hd hl h k
  case isub => exact sd_isub C0 hd hl h k
  case imul => exact sd_imul C0 hd hl h k
  case iand => exact sd_iand C0 hd hl h k
  case ior => exact sd_ior C0 hd hl h k
  case ixor => exact sd_ixor C0 hd hl h k
  case ishl => exact sd_ishl C0 hd hl h k
  case ishr => exact sd_ishr C0 hd hl h k
  case ladd => exact sd_ladd C0 hd hl h k
  case lsub => exact sd_lsub C0 hd hl h k
  case land => exact sd_land C0 hd hl h k
  case lor => exact sd_lor C0 hd hl h k
  case lxor => exact sd_lxor C0 hd hl h k
  case lshl => exact sd_lshl C0 hd hl h k
  case lshr => exact sd_lshr C0 hd hl h k
  case lushr => exact sd_lushr C0 hd hl h k
  case ineg => exact sd_ineg C0 hd hl h k
  case i2l => exact sd_i2l C0 hd hl h k
  case i2b => exact sd_i2b C0 hd hl h k
  case i2c => exact sd_i2c C0 hd hl h k
  case l2i => exact sd_l2i C0 hd hl h k
  case i2f => exact sd_i2f C0 hd hl h k
  case lcmp => exact sd_lcmp C0 hd hl h k
  case dcmp => exact sd_dcmp C0 hd hl h k
  case fcmp => exact sd_fcmp C0 hd hl h k
  case idiv => exact sd_idiv C0 hd hl h k
  case irem => exact sd_irem C0 hd hl h k
  case fdiv => exact sd_fdiv C0 hd hl h k
  case f2d => exact sd_f2d C0 hd hl h k
  case iconst => exact sd_iconst C0 hd hl h k
  case bipush => exact sd_bipush C0 hd hl h k
  case sipush => exact sd_sipush C0 hd hl h k
  case lconst => exact sd_lconst C0 hd hl h k
  case aconst_null => exact sd_null C0 hd hl h k
  case iload => exact sd_iload C0 hd hl h k
  case fload => exact sd_fload C0 hd hl h k
  case lload => exact sd_lload C0 hd hl h k
  case iload_n => exact sd_iload_n C0 hd hl h k
  case lload_n => exact sd_lload_n C0 hd hl h k
  case aload => exact sd_aload C0 hd hl h k
  case aload_n => exact sd_aload_n C0 hd hl h k
  case istore => exact sd_istore C0 hd hl h k
  case istore_n => exact sd_istore_n C0 hd hl h k
  case fstore => exact sd_fstore C0 hd hl h k
  case lstore => exact sd_lstore C0 hd hl h k
  case lstore_n => exact sd_lstore_n C0 hd hl h k
  case astore => exact sd_astore C0 hd hl h k
  case astore_n => exact sd_astore_n C0 hd hl h k
  case iinc => exact sd_iinc C0 hd hl h k
  case dup => exact sd_dup C0 hd hl h k
  case pop => exact sd_pop C0 hd hl h k
  case dup_x1 => exact sd_dup_x1 C0 hd hl h k
  case dup2 => exact sd_dup2 C0 hd hl h k
  case goto => exact sd_goto C0 hd hl h k
  case ifCond => exact sd_ifCond C0 hd hl h k
  case if_icmp => exact sd_if_icmp C0 hd hl h k
  case ifnull => exact sd_ifnull C0 hd hl h k
  case ifnonnull => exact sd_ifnonnull C0 hd hl h k
  case fconst => exact sd_fconst C0 hd hl h k
  case tableswitch => exact sd_tableswitch C0 hd h k
  case getfield => exact sd_getfield C0 hd hl h hlp htc k
  case ldc2_w => exact sd_ldc2 C0 hd hl h hlp k
  case getstatic => exact sd_getstatic C0 hd hl h hlp k
  case ldc => exact sd_ldc C0 hd hl h hlp k
  case ldc_w => exact sd_ldcw C0 hd hl h hlp k
  case iaload => exact sd_iaload C0 hd hl h k
  case laload => exact sd_laload C0 hd hl h k
  case daload => exact sd_daload C0 hd hl h k
  case aaload => exact sd_aaload C0 hd hl h k
  case baload => exact sd_baload C0 hd hl h k
  case arraylength => exact sd_alen C0 hd hl h k
  case iastore => exact sd_iastore C0 hd hl h k
  case bastore => exact sd_bastore C0 hd hl h k
  case lastore => exact sd_lastore C0 hd hl h k
  case dastore => exact sd_dastore C0 hd hl h k
  case new => exact sd_new C0 hd hl h hlp htc hcells hslots k
  case newarray => exact sd_newarray C0 hd hl h hcells hslots k
  case anewarray => exact sd_anewarray C0 hd hl h hlp hcells hslots k
  case checkcast => exact sd_checkcast C0 hd hl h hlp k
  case aastore => exact sd_aastore C0 hd hl h k
  case putfield => exact sd_putfield C0 hd hl h hlp k
  case invokestatic i =>
    have hl3 : len = 3 := hl
    subst hl3
    exact st_is C0 ih hX hd h hlp.1 hlp.2 htc3 hR hcells hslots k
  case invokevirtual i =>
    have hl3 : len = 3 := hl
    subst hl3
    exact st_iv C0 ih hX hd h hlp.1 hlp.2 htc2 htc3 hR hcells hslots k
  case invokespecial i =>
    have hl3 : len = 3 := hl
    subst hl3
    exact st_ix C0 ih hX hd h hlp.1 hlp.2 htc2 htc3 hR hcells hslots k
  all_goals
    exfalso
    simp only [stepI, nx, st1, st2, done] at h
    try ((repeat' split at h) <;> cases h)
set_option maxHeartbeats 4000000 in
/-- one instruction: the method's end -/
theorem step_r (C0 : Cx K M p l s m meth c) (ih : IH K l d cm) (hM : M < 311) (ht : c.exceptionTable.toList = tableOf (hhT.getD M [])) (hr : meth.sig.returnType = mtR M) (hi : insAt M pc = some (ins, len, r, z)) (h : stepI cm (mtH M) (mtR M) pc (some (ins, len, r, z)) L L2 St S = some (.inr o9)) (hR : d + 11 ≤ R.frames ∧ 64 * d + 264 ≤ R.locals) (hcells : cel o9.2 - cel S0 ≤ R.cells) (hslots : slo o9.2 - slo S0 ≤ R.slots) (hlk : meth.locks = false) : Gd K M p l e R s m args below meth c (RQ K below ρ0 S0 o9 args s) S0 ρ0 (pc, L, L2, St, S) := by
  have hip := ins_ok hi
  have htc2 := tchk2_of hi
  have htc3 := tchk3_of hi
  have hrc := rchk_of hi
  have hd : decode (mtC M) pc = .ok (ins, len) := hip.1.1
  have hl : len = iln ins len := hip.1.2
  have hlp : lP (mE M) pc (ins, len, r, z) := hip.2
  clear hip
  cases ins
  case ireturn => exact se_ireturn C0 hr hlk hd hl h
  case lreturn => exact se_lreturn C0 hr hlk hd hl h
  case freturn => exact se_freturn C0 hr hlk hd hl h
  case areturn => exact se_areturn C0 hr hlk hd hl h hrc
  case return_ => exact se_return C0 hr hlk hd hl h
  case new i =>
    have hz : mtH M = [] := by
      by_cases hz : mtH M = []
      · exact hz
      · exfalso
        simp only [stepI, nx, hz, false_and, if_false] at h
        (repeat' split at h) <;> cases h
    exact se_newA C0 h hlp htc3 (nt_of hM ht hz) hlk (by omega) hcells hslots
  case invokestatic i =>
    have hl3 : len = 3 := hl
    subst hl3
    exact en_is C0 ih hM ht hd h hlp.1 hlp.2 htc3 hR hcells hslots hlk
  case invokevirtual i =>
    have hl3 : len = 3 := hl
    subst hl3
    exact en_iv C0 ih hM ht hd h hlp.1 hlp.2 htc2 htc3 hR hcells hslots hlk
  case invokespecial i =>
    have hl3 : len = 3 := hl
    subst hl3
    exact en_ix C0 ih hM ht hd h hlp.1 hlp.2 htc2 htc3 hR hcells hslots hlk
  all_goals
    exfalso
    simp only [stepI, nx, st1, st2, done] at h
    try ((repeat' split at h) <;> cases h)
end STEP30
