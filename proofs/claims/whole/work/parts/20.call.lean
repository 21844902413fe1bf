/-! SOUNDNESS: contracts of the small machine's methods, and a call by them -/
/-- what a call leaves: the picture under another naming, what was there has kept its names -/
def MvK (K : KX) (ρ ρ' : OId → Nat) (S S' : SS) (t : State) : Prop := Pic K ρ' S' t.heap ∧ WF K S' ∧ cel S ≤ cel S' ∧ slo S ≤ slo S' ∧ ∀ o ∈ lv S, o ∈ lv S' ∧ ρ' o = ρ o
def PcK (K : KX) (ρ : OId → Nat) (S : SS) (as : List AV) : Array Value → State → Prop := fun a U => a = (as.map (av K ρ)).toArray ∧ EnvU K U U.heap ∧ Pic K ρ S U.heap ∧ WF K S ∧ ∀ v ∈ as, okA K (lv S) v
def QcK (K : KX) (ρ : OId → Nat) (S : SS) (o9 : Out) : Array Value → State → Outcome → State → Prop := fun _ st out t => ∃ v ρ', o9.1 = .inl v ∧ out = .returned (v.map (av K ρ')) ∧ MvK K ρ ρ' S o9.2 t ∧ (∀ x, v = some x → okA K (lv o9.2) x) ∧ va_F (xA K) st t
def XcK (K : KX) (ρ : OId → Nat) (S : SS) (o9 : Out) : String → State → State → Prop := fun E st t => ∃ ρ', o9.1 = .inr E ∧ MvK K ρ ρ' S o9.2 t ∧ va_F (xA K) st t
/-- method M, called at depth d, answers o9: on the machine too -/
def CM (K : KX) (l : Launch) (d M : Nat) (as : List AV) (S : SS) (o9 : Out) : Prop :=
  ∀ ρ, vx_Met l (mtY M) [codeW M] { frames := d + 10, locals := 64 * d + 200, cells := cel o9.2 - cel S, slots := slo o9.2 - slo S } (PcK K ρ S as) (QcK K ρ S o9) (XcK K ρ S o9) (cel o9.2 - cel S) (slo o9.2 - slo S) (xA K)
theorem PcK.blind {K : KX} {ρ : OId → Nat} {S : SS} {as : List AV} : FrameBlind (PcK K ρ S as) := by
  intro a U g mk ⟨h1, h2, h3, h4, h5⟩
  refine ⟨h1, EnvU.moved (s := U) (H := U.heap) ?_ (Nat.le_refl _) (fun _ _ _ => rfl) h2, h3, h4, h5⟩
  exact State.WarmedH.refl _
section STEP10
variable {K : KX} {M : Nat} {p : Program} {l : Launch} {e : Env} {R : Room} {s : State} {m : MethodId} {args : Array Value} {below : List Frame} {meth : Method} {c : Code} {Q : State → Prop} {S0 : SS} {ρ0 ρ' : OId → Nat}
variable {ρ : OId → Nat} {H H0 H1 : Heap} {locs locs1 : List Loc} {ls : Array Slot} {L : List (Option AV)} {L2 : List (Nat × AV)} {St : List AV} {S S' : SS} {pc n : Nat} {z : Int} {r : Nat × Nat × Nat × Nat}
/-- an exception E comes out of a call here -/
def GdX (K : KX) (M : Nat) (p : Program) (l : Launch) (e : Env) (R : Room) (s : State) (m : MethodId) (args : Array Value) (below : List Frame) (meth : Method) (c : Code) (Q : State → Prop) (S0 : SS) (ρ0 : OId → Nat) (E : String) (pc : Nat) (L : List (Option AV)) (L2 : List (Nat × AV)) (S : SS) : Prop :=
  ∀ (ρ : OId → Nat) (H : Heap) (locs : List Loc) (ls : Array Slot) (q9 : Addr) (ce : Cell) (rest : List Value), Fs K M S0 ρ0 s.heap ρ H locs ls L L2 [] S → H[q9]? = some ce → ce.vm = .none → s.vm.findClass E = some ce.cls → vx_W p l e R s m args below meth c H locs (cel S - cel S0) (slo S - slo S0) Q (F0 m pc ls rest) q9
theorem sub_3 {a b c : Nat} (h1 : b ≤ a) (h2 : a ≤ c) : a - b + (c - a) = c - b := by omega
/-- a call's run, taken by the callee's contract -/
theorem run_go {o9 : Out} {a : Array Value} {st0 : List Value} (F : Fs K M S0 ρ0 s.heap ρ H locs ls L L2 St S)
    (hr : vx_Run p l e R s m args below meth c H locs (cel S - cel S0) (slo S - slo S0) (cel o9.2 - cel S) (slo o9.2 - slo S) (F0 m pc ls st0) (St.map (av K ρ)) (QcK K ρ S o9 a) (XcK K ρ S o9) (xA K))
    (kv : ∀ v, o9.1 = .inl v → Gd K M p l e R s m args below meth c Q S0 ρ0 (pc + 3, L, L2, v.toList ++ St, o9.2))
    (kx : ∀ E, o9.1 = .inr E → GdX K M p l e R s m args below meth c Q S0 ρ0 E pc L L2 o9.2) : W p l e R s m args below meth c H locs (cel S - cel S0) (slo S - slo S0) Q (F0 m pc ls st0) := by
  intro T hT X
  rcases hr T hT X with ⟨v, st₀, t, T', L', h0, X', hL, e1, e2, ⟨v9, ρ', ho, hout, hmv, hok, hF⟩, st⟩ | ⟨q, st₀, t, T', L', E, ce, h0, X', hL, e1, e2, ⟨ρ', ho, hmv, hF⟩, hce, hcv, hcl, st⟩
  · cases hout
    obtain ⟨k1, k2, k3⟩ := vx_keep h0 e1 F.1.2.2.1 (fun _ _ h => h) (fun _ h => h) hL hF
    obtain ⟨m1, m2, m3, m4, m5⟩ := hmv
    rw [← e1] at m1
    obtain ⟨F', eS⟩ := F.move (ρ' := ρ') (S' := o9.2) m1 m2 k3 m3 m4 m5
    have F2 : Fs K M S0 ρ0 s.heap ρ' T'.heap (locs ++ L') ls L L2 (v9.toList ++ St) o9.2 := F'.stk fun x hx => by
      rcases List.mem_append.mp hx with h | h
      · cases v9 with
        | none => cases h
        | some y => rw [List.mem_singleton.mp h]; exact hok y rfl
      · exact F'.2.2 x h
    have kk := kv v9 ho ρ' T'.heap (locs ++ L') ls F2
    rw [sub_3 F.1.2.2.2.1 m3, sub_3 F.1.2.2.2.2.1 m4] at X'
    obtain ⟨t2, a1, b1⟩ := kk T' rfl X'
    refine ⟨t2, st t2 ?_, b1⟩
    have e9 : (v9.map (av K ρ')).toList ++ St.map (av K ρ) = (v9.toList ++ St).map (av K ρ') := by
      rw [List.map_append, eS]
      cases v9 <;> rfl
    rw [e9]
    exact a1
  · obtain ⟨k1, k2, k3⟩ := vx_keep h0 e1 F.1.2.2.1 (fun _ _ h => h) (fun _ h => h) hL hF
    obtain ⟨m1, m2, m3, m4, m5⟩ := hmv
    rw [← e1] at m1
    obtain ⟨F', eS⟩ := F.move (ρ' := ρ') (S' := o9.2) m1 m2 k3 m3 m4 m5
    rw [sub_3 F.1.2.2.2.1 m3, sub_3 F.1.2.2.2.2.1 m4] at X'
    obtain ⟨t2, a1, b1⟩ := kx E ho ρ' T'.heap (locs ++ L') ls q ce (St.map (av K ρ)) (F'.stk fun x hx => by cases hx) (by rw [e1]; exact hce) hcv hcl T' rfl X'
    exact ⟨t2, st.trans a1, b1⟩
end STEP10
