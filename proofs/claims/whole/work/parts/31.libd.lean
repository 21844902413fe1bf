/-! SOUNDNESS: the dispatcher, the library's own methods -/
section STEP20
variable {K : KX} {M : Nat} {p : Program} {l : Launch} {e : Env} {R : Room} {s : State} {m : MethodId} {args : Array Value} {below : List Frame} {meth : Method} {c : Code} {Q : State → Prop} {S0 : SS} {ρ0 ρ' : OId → Nat}
variable {L : List (Option AV)} {L2 : List (Nat × AV)} {St : List AV} {S S' : SS} {pc len i q1 q2 q4 zz : Nat} {cm : Nat → List AV → SS → Option Out} {hs : List HE} {g' : Cfg}

theorem sd_max (C0 : Cx K M p l s m meth c) (hd : decode (mtC M) pc = .ok (.invokestatic i, 3)) (h : inv cm hs pc (q1, q2, 23, q4) L L2 St S = some (.inl g')) (hlp : cP (mtY M).cls i (q1, q2, 23, q4) zz) (hR : 1 ≤ R.frames ∧ 100 ≤ R.locals) (hcells : cel g'.2.2.2.2 - cel S0 ≤ R.cells) (hslots : slo g'.2.2.2.2 - slo S0 ≤ R.slots) (k : Gd K M p l e R s m args below meth c Q S0 ρ0 g') : Gd K M p l e R s m args below meth c Q S0 ρ0 (pc, L, L2, St, S) := by
  replace h : (match St with | .inl (.int y) :: .inl (.int x) :: r => if r.length ≤ 4 then nx (pc + 3) L L2 (aI (if x < y then y else x) :: r) S else none | _ => none) = some (.inl g') := h
  split at h
  · split at h
    · rename_i hq
      simp only [nx] at h
      cases h
      exact g_max C0 hd hlp hR hcells hslots hq k
    · cases h
  · cases h
theorem sd_min (C0 : Cx K M p l s m meth c) (hd : decode (mtC M) pc = .ok (.invokestatic i, 3)) (h : inv cm hs pc (q1, q2, 24, q4) L L2 St S = some (.inl g')) (hlp : cP (mtY M).cls i (q1, q2, 24, q4) zz) (hR : 1 ≤ R.frames ∧ 100 ≤ R.locals) (hcells : cel g'.2.2.2.2 - cel S0 ≤ R.cells) (hslots : slo g'.2.2.2.2 - slo S0 ≤ R.slots) (k : Gd K M p l e R s m args below meth c Q S0 ρ0 g') : Gd K M p l e R s m args below meth c Q S0 ρ0 (pc, L, L2, St, S) := by
  replace h : (match St with | .inl (.int y) :: .inl (.int x) :: r => if r.length ≤ 4 then nx (pc + 3) L L2 (aI (if y < x then y else x) :: r) S else none | _ => none) = some (.inl g') := h
  split at h
  · split at h
    · rename_i hq
      simp only [nx] at h
      cases h
      exact g_min C0 hd hlp hR hcells hslots hq k
    · cases h
  · cases h
theorem sd_abs (C0 : Cx K M p l s m meth c) (hd : decode (mtC M) pc = .ok (.invokestatic i, 3)) (h : inv cm hs pc (q1, q2, 25, q4) L L2 St S = some (.inl g')) (hlp : cP (mtY M).cls i (q1, q2, 25, q4) zz) (hR : 1 ≤ R.frames ∧ 100 ≤ R.locals) (hcells : cel g'.2.2.2.2 - cel S0 ≤ R.cells) (hslots : slo g'.2.2.2.2 - slo S0 ≤ R.slots) (k : Gd K M p l e R s m args below meth c Q S0 ρ0 g') : Gd K M p l e R s m args below meth c Q S0 ρ0 (pc, L, L2, St, S) := by
  replace h : (match St with | .inl (.int x) :: r => if r.length ≤ 4 then nx (pc + 3) L L2 (aI (if 0 ≤ x then x else 0 - x) :: r) S else none | _ => none) = some (.inl g') := h
  split at h
  · split at h
    · rename_i hq
      simp only [nx] at h
      cases h
      exact g_abs C0 hd hlp hR hcells hslots hq k
    · cases h
  · cases h
theorem sd_oinit (C0 : Cx K M p l s m meth c) (hd : decode (mtC M) pc = .ok (.invokespecial i, 3)) (h : inv cm hs pc (q1, q2, 20, q4) L L2 St S = some (.inl g')) (hlp : cP (mtY M).cls i (q1, q2, 20, q4) zz) (hR : 1 ≤ R.frames ∧ 100 ≤ R.locals) (hcells : cel g'.2.2.2.2 - cel S0 ≤ R.cells) (hslots : slo g'.2.2.2.2 - slo S0 ≤ R.slots) (k : Gd K M p l e R s m args below meth c Q S0 ρ0 g') : Gd K M p l e R s m args below meth c Q S0 ρ0 (pc, L, L2, St, S) := by
  replace h : (match St with | [.inr o] => if o.1 = 48 then none else nx (pc + 3) L L2 [] S | _ => none) = some (.inl g') := h
  split at h
  · split at h
    · cases h
    · rename_i hq
      simp only [nx] at h
      cases h
      exact g_oinit C0 hd hlp hq hR k
  · cases h
theorem sd_acopy (C0 : Cx K M p l s m meth c) (hd : decode (mtC M) pc = .ok (.invokestatic i, 3)) (h : inv cm hs pc (q1, q2, 21, q4) L L2 St S = some (.inl g')) (hlp : cP (mtY M).cls i (q1, q2, 21, q4) zz) (hR : 1 ≤ R.frames ∧ 100 ≤ R.locals) (hcells : cel g'.2.2.2.2 - cel S0 ≤ R.cells) (hslots : slo g'.2.2.2.2 - slo S0 ≤ R.slots) (k : Gd K M p l e R s m args below meth c Q S0 ρ0 g') : Gd K M p l e R s m args below meth c Q S0 ρ0 (pc, L, L2, St, S) := by
  replace h : (match St with | .inl (.int n) :: .inl (.int dp) :: .inr d :: .inl (.int sp) :: .inr s9 :: r => if r.length ≤ 4 then (match acp S s9 sp d dp n with | some S' => nx (pc + 3) L L2 r S' | none => none) else none | _ => none) = some (.inl g') := h
  split at h
  · split at h
    · rename_i hq
      split at h
      · rename_i ha
        simp only [nx] at h
        cases h
        exact g_acopy C0 hd hlp ha hR hq k
      · cases h
    · cases h
  · cases h
end STEP20
