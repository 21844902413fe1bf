/-! SOUNDNESS: the dispatcher, the class's own throws -/
section STEP21
variable {K : KX} {M : Nat} {p : Program} {l : Launch} {e : Env} {R : Room} {s : State} {m : MethodId} {args : Array Value} {below : List Frame} {meth : Method} {c : Code} {S0 : SS} {ρ0 : OId → Nat}
variable {L : List (Option AV)} {L2 : List (Nat × AV)} {St : List AV} {S S' : SS} {pc len i : Nat} {z : Int} {r : Nat × Nat × Nat × Nat} {cm : Nat → List AV → SS → Option Out} {hs : List HE} {rt : Option FieldType} {o9 : Out}
theorem se_new (C0 : Cx K M p l s m meth c) (h : stepI cm hs rt pc (some (.new i, len, r, z)) L L2 St S = some (.inr o9)) (hlp : lP (mE M) pc (.new i, len, r, z)) (hx : r.1 = 0 ∨ r.1 = 1 ∨ r.1 = 2 ∨ r.1 = 4 ∨ r.1 = 5) (hnt : ∀ y ∈ c.exceptionTable.toList, False) (hlk : meth.locks = false) (hR : 10 ≤ R.frames ∧ 200 ≤ R.locals) (hcells : cel o9.2 - cel S0 ≤ R.cells) (hslots : slo o9.2 - slo S0 ≤ R.slots) : Gd K M p l e R s m args below meth c (RQ K below ρ0 S0 o9 args s) S0 ρ0 (pc, L, L2, St, S) := by
  obtain ⟨a, r2, r3, r4⟩ := r
  match r3, h, hlp with
  | 0, h, _ =>
    replace h : (match mkC S a with | some (o, S') => nx (pc + 3) L L2 (aR o :: St) S' | none => none) = some (.inr o9) := h
    split at h
    · simp only [nx] at h
      cases h
    · cases h
  | 1, h, hlp =>
    replace h : (if hs = [] ∧ St.length ≤ 4 then some (Sum.inr (Sum.inr (exN a), bump S 1 6)) else none) = some (.inr o9) := h
    split at h
    · rename_i hq
      cases h
      obtain ⟨h1, is, ic, tx, w1, w2, hts⟩ := hlp
      exact g_throwS C0 h1 hx hts hnt hlk hq.2 hR hcells hslots
    · cases h
  | _ + 2, h, _ => cases h
end STEP21
