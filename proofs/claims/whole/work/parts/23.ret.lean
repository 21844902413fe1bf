/-! SOUNDNESS: returns -/
def rchk (rt : Option FieldType) (q : Nat × IE) : Bool := match q.2.1 with
  | .areturn => (match rt with | some t => refT t | none => false)
  | _ => true
set_option maxRecDepth 100000 in
theorem rchk_all : (mT.all fun row => row.all fun e => e.2.2.2.2.2.all fun l => l.all (rchk e.2.2.2.1)) = true := by decide +kernel
theorem rchk_of {M pc : Nat} {q : IE} (h : insAt M pc = some q) : rchk (mtR M) (pc, q) = true := by
  obtain ⟨row, hr, he⟩ := mE_mem M
  unfold insAt at h
  have hm := lk_mem h
  by_cases hz : pc / 64 < (mtI M).length
  · rw [List.getD_eq_getElem?_getD, List.getElem?_eq_getElem hz] at hm
    exact List.all_eq_true.mp (List.all_eq_true.mp (List.all_eq_true.mp (List.all_eq_true.mp rchk_all row hr) _ he) _ (List.getElem_mem hz)) _ hm
  · rw [List.getD_eq_getElem?_getD, List.getElem?_eq_none (Nat.le_of_not_lt hz)] at hm
    exact absurd hm List.not_mem_nil
theorem nar_char {x : Int32} (h : (x.toUInt32 % 65536).toInt32 = x) : narrow .char (.int x) = .int x := by
  show Value.int x.toUInt32.toUInt16.toUInt32.toInt32 = .int x
  rw [UInt32.toUInt32_toUInt16]
  exact congrArg Value.int h
/-- where a method's run must come to -/
def RQ (K : KX) (below : List Frame) (ρ0 : OId → Nat) (S0 : SS) (o9 : Out) (args : Array Value) (s : State) : State → Prop := vx_MQ below (QcK K ρ0 S0 o9) (XcK K ρ0 S0 o9) args s (cel o9.2 - cel S0) (slo o9.2 - slo S0) (xA K)
section STEP13
variable {K : KX} {M : Nat} {p : Program} {l : Launch} {e : Env} {R : Room} {s : State} {m : MethodId} {args : Array Value} {below : List Frame} {meth : Method} {c : Code} {Q : State → Prop} {S0 : SS} {ρ0 ρ' : OId → Nat}
variable {ρ : OId → Nat} {H H0 H1 : Heap} {locs locs1 : List Loc} {ls : Array Slot} {L : List (Option AV)} {L2 : List (Nat × AV)} {St : List AV} {S S' : SS} {pc n : Nat} {z : Int} {r : Nat × Nat × Nat × Nat}
theorem Fs.va_F {t : State} (F : Fs K M S0 ρ0 s.heap ρ H locs ls L L2 St S) (ht : t.heap = H) : va_F (xA K) s t := by
  exact ⟨by rw [ht]; exact F.1.2.2.1.1, fun q h1 h2 => by rw [ht]; exact F.1.2.2.1.2.1 q h1 h2⟩
theorem qc_ok {v : Option AV} {t : State} (F : Fs K M S0 ρ0 s.heap ρ H locs ls L L2 St S) (hv : ∀ x, v = some x → okA K (lv S) x) (ht : t.heap = H) : QcK K ρ0 S0 (.inl v, S) args s (.returned (v.map (av K ρ))) t :=
  ⟨v, ρ, rfl, rfl, ⟨by rw [ht]; exact F.1.1, F.1.2.1, F.1.2.2.2.1, F.1.2.2.2.2.1, F.1.2.2.2.2.2⟩, hv, F.va_F ht⟩
theorem g_ireturn {x : Int32} (C0 : Cx K M p l s m meth c) (hr : meth.sig.returnType = mtR M) (hlk : meth.locks = false) (hd : decode (mtC M) pc = .ok (.ireturn, 1)) (ht : retOk (mtR M) x = true) : Gd K M p l e R s m args below meth c (RQ K below ρ0 S0 (.inl (some (aI x)), S) args s) S0 ρ0 (pc, L, L2, [aI x], S) := by
  intro ρ H locs ls F
  have hq : ∀ t : State, t.heap = H → s.WarmedH t.vm → QcK K ρ0 S0 (.inl (some (aI x)), S) args s (.returned (some (.int x))) t := fun t h _ => qc_ok F (fun y hy => by cases hy; exact okA_inl) h
  refine vx_ret ?_
  cases hm : mtR M with
  | none => rw [hm] at ht; cases ht
  | some ty =>
    rw [hm] at ht hr
    cases ty with
    | int => exact W.iret C0.1 C0.2.1 hr hq F.1.2.2.1.2.2 hd hlk
    | boolean => exact W.zret C0.1 C0.2.1 hr (nar_bool (of_decide_eq_true ht)).1 hq F.1.2.2.1.2.2 hd hlk
    | byte => exact W.zret C0.1 C0.2.1 hr (nar_byte (of_decide_eq_true ht)).1 hq F.1.2.2.1.2.2 hd hlk
    | char => exact W.zret C0.1 C0.2.1 hr (nar_char (of_decide_eq_true ht)) hq F.1.2.2.1.2.2 hd hlk
    | _ => cases ht
theorem g_lreturn {x : Int64} (C0 : Cx K M p l s m meth c) (hr : meth.sig.returnType = mtR M) (hlk : meth.locks = false) (hd : decode (mtC M) pc = .ok (.lreturn, 1)) (ht : mtR M = some .long) : Gd K M p l e R s m args below meth c (RQ K below ρ0 S0 (.inl (some (aL x)), S) args s) S0 ρ0 (pc, L, L2, [aL x], S) := by
  intro ρ H locs ls F
  exact vx_ret (W.lret C0.1 C0.2.1 (hr.trans ht) (fun t h _ => qc_ok (v := some (aL x)) F (fun y hy => by cases hy; exact okA_inl) h) F.1.2.2.1.2.2 hd hlk)
theorem g_freturn {x : UInt32} (C0 : Cx K M p l s m meth c) (hr : meth.sig.returnType = mtR M) (hlk : meth.locks = false) (hd : decode (mtC M) pc = .ok (.freturn, 1)) (ht : mtR M = some .float) : Gd K M p l e R s m args below meth c (RQ K below ρ0 S0 (.inl (some (aF x)), S) args s) S0 ρ0 (pc, L, L2, [aF x], S) := by
  intro ρ H locs ls F
  exact vx_ret (W.fret C0.1 C0.2.1 (hr.trans ht) (fun t h _ => qc_ok (v := some (aF x)) F (fun y hy => by cases hy; exact okA_inl) h) F.1.2.2.1.2.2 hd hlk)
theorem g_vreturn (C0 : Cx K M p l s m meth c) (hr : meth.sig.returnType = mtR M) (hlk : meth.locks = false) (hd : decode (mtC M) pc = .ok (.return_, 1)) (ht : mtR M = none) : Gd K M p l e R s m args below meth c (RQ K below ρ0 S0 (.inl none, S) args s) S0 ρ0 (pc, L, L2, [], S) := by
  intro ρ H locs ls F
  exact vx_ret (W.vret C0.1 C0.2.1 (hr.trans ht) (fun t h _ => qc_ok (v := none) F (fun y hy => by cases hy) h) F.1.2.2.1.2.2 hd hlk)
theorem av_isA {v : AV} (hn : xn K = .null ∨ ∃ a, xn K = .ref a) (h : isA v = true) : av K ρ v = .null ∨ ∃ a, av K ρ v = .ref a := by
  unfold isA at h
  split at h
  · rename_i o
    unfold av
    by_cases h48 : o.1 = 48
    · simp only [if_pos h48]; exact hn
    · simp only [if_neg h48]; exact Or.inr ⟨_, rfl⟩
  · exact Or.inl rfl
  · cases h
theorem g_areturn {v : AV} (C0 : Cx K M p l s m meth c) (hr : meth.sig.returnType = mtR M) (hlk : meth.locks = false) (hd : decode (mtC M) pc = .ok (.areturn, 1)) (ha : isA v = true) {rt : FieldType} (hm : mtR M = some rt) (ht : refT rt = true) : Gd K M p l e R s m args below meth c (RQ K below ρ0 S0 (.inl (some v), S) args s) S0 ρ0 (pc, L, L2, [v], S) := by
  intro ρ H locs ls F
  have hrt : (∃ n, rt = .object n) ∨ ∃ t, rt = .array t := by
    unfold refT at ht
    split at ht
    · exact Or.inl ⟨_, rfl⟩
    · exact Or.inr ⟨_, rfl⟩
    · cases ht
  exact vx_ret (W.aret C0.1 C0.2.1 (hr.trans hm) hrt (av_isA C0.hn ha) (fun t h _ => qc_ok (v := some v) F (fun y hy => by cases hy; exact F.t1.1) h) F.1.2.2.1.2.2 hd hlk)
end STEP13
