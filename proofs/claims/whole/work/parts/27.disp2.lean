/-! SOUNDNESS: the dispatcher, second part: what makes objects -/
section STEP16
variable {K : KX} {M : Nat} {p : Program} {l : Launch} {e : Env} {R : Room} {s : State} {m : MethodId} {args : Array Value} {below : List Frame} {meth : Method} {c : Code} {Q : State → Prop} {S0 : SS} {ρ0 ρ' : OId → Nat}
variable {L : List (Option AV)} {L2 : List (Nat × AV)} {St : List AV} {S S' : SS} {pc len : Nat} {z : Int} {r : Nat × Nat × Nat × Nat} {cm : Nat → List AV → SS → Option Out} {hs : List HE} {rt : Option FieldType} {g' : Cfg}

theorem sd_new {i : Nat} (C0 : Cx K M p l s m meth c) (hd : decode (mtC M) pc = .ok (.new i, len)) (hl : len = iln (.new i) len) (h : stepI cm hs rt pc (some (.new i, len, r, z)) L L2 St S = some (.inl g')) (hlp : lP (mE M) pc (.new i, len, r, z)) (htc : tchk (pc, (.new i, len, r, z)) = true) (hcells : cel g'.2.2.2.2 - cel S0 ≤ R.cells) (hslots : slo g'.2.2.2.2 - slo S0 ≤ R.slots) (k : Gd K M p l e R s m args below meth c Q S0 ρ0 g') : Gd K M p l e R s m args below meth c Q S0 ρ0 (pc, L, L2, St, S) := by
  have hn : len = 3 := hl
  subst hn
  obtain ⟨a, r2, r3, r4⟩ := r
  match r3, h, hlp, htc with
  | 0, h, hlp, htc =>
    replace h : (match mkC S a with | some (o, S') => nx (pc + 3) L L2 (aR o :: St) S' | none => none) = some (.inl g') := h
    split at h
    · rename_i o S' hm
      simp only [nx] at h
      cases h
      have hw : nfl a = 0 ∨ wAt z.toNat = some (.classLink (mtY M).cls i (clC a).1) := hlp
      rcases hw with h0 | hw
      · have ht : (!(0 == 0) || decide (0 < nfl a) || a == 3) = true := htc
        rw [h0] at ht
        have h3 : a = 3 := by simpa using ht
        intro ρ H locs ls F
        exact absurd h3 (mkC_spec F.1.2.1 hm).choose_spec.choose_spec.2.2.2.2.2.2.2
      · by_cases hn : 0 < nfl a
        · exact g_new C0 hd hn hm hw hcells hslots k
        · have ht : (!(0 == 0) || decide (0 < nfl a) || a == 3) = true := htc
          have h3 : a = 3 := by simpa [hn] using ht
          intro ρ H locs ls F
          exact absurd h3 (mkC_spec F.1.2.1 hm).choose_spec.choose_spec.2.2.2.2.2.2.2
    · cases h
  | 1, h, _, _ =>
    replace h : (if hs = [] ∧ St.length ≤ 4 then some (Sum.inr (Sum.inr (exN a), bump S 1 6)) else none) = some (.inl g') := h
    split at h <;> cases h
  | _ + 2, h, _, _ => cases h
theorem sd_newarray {t : ArrayType} (C0 : Cx K M p l s m meth c) (hd : decode (mtC M) pc = .ok (.newarray t, len)) (hl : len = iln (.newarray t) len) (h : stepI cm hs rt pc (some (.newarray t, len, r, z)) L L2 St S = some (.inl g')) (hcells : cel g'.2.2.2.2 - cel S0 ≤ R.cells) (hslots : slo g'.2.2.2.2 - slo S0 ≤ R.slots) (k : Gd K M p l e R s m args below meth c Q S0 ρ0 g') : Gd K M p l e R s m args below meth c Q S0 ρ0 (pc, L, L2, St, S) := by
  have hn : len = 2 := hl
  subst hn
  simp only [stepI] at h
  split at h
  · split at h
    · cases h
    · rename_i hc
      split at h
      · rename_i o S' hm
        simp only [nx] at h
        cases h
        exact g_newarray C0 hd (fun q => hc (Or.inl q)) (fun q => hc (Or.inr q)) hm hcells hslots k
      · cases h
  · cases h
theorem sd_anewarray {i : Nat} (C0 : Cx K M p l s m meth c) (hd : decode (mtC M) pc = .ok (.anewarray i, len)) (hl : len = iln (.anewarray i) len) (h : stepI cm hs rt pc (some (.anewarray i, len, r, z)) L L2 St S = some (.inl g')) (hlp : lP (mE M) pc (.anewarray i, len, r, z)) (hcells : cel g'.2.2.2.2 - cel S0 ≤ R.cells) (hslots : slo g'.2.2.2.2 - slo S0 ≤ R.slots) (k : Gd K M p l e R s m args below meth c Q S0 ρ0 g') : Gd K M p l e R s m args below meth c Q S0 ρ0 (pc, L, L2, St, S) := by
  have hn : len = 3 := hl
  subst hn
  simp only [stepI] at h
  split at h
  · split at h
    · cases h
    · rename_i hc
      split at h
      · rename_i o S' hm
        simp only [nx] at h
        cases h
        exact g_anewarray (a := r.1) C0 hd (fun q => hc (Or.inl q)) (fun q => hc (Or.inr q)) hm hlp hcells hslots k
      · cases h
  · cases h
theorem sd_checkcast {i : Nat} (C0 : Cx K M p l s m meth c) (hd : decode (mtC M) pc = .ok (.checkcast i, len)) (hl : len = iln (.checkcast i) len) (h : stepI cm hs rt pc (some (.checkcast i, len, r, z)) L L2 St S = some (.inl g')) (hlp : lP (mE M) pc (.checkcast i, len, r, z)) (k : Gd K M p l e R s m args below meth c Q S0 ρ0 g') : Gd K M p l e R s m args below meth c Q S0 ρ0 (pc, L, L2, St, S) := by
  have hn : len = 3 := hl
  subst hn
  simp only [stepI] at h
  split at h
  · split at h
    · rename_i hk
      split at h
      · rename_i hro
        simp only [nx] at h
        cases h
        exact g_checkcast C0 hd hk hro hlp k
      · cases h
    · cases h
  · cases h
theorem sd_aastore (C0 : Cx K M p l s m meth c) (hd : decode (mtC M) pc = .ok (.aastore, len)) (hl : len = iln (.aastore) len) (h : stepI cm hs rt pc (some (.aastore, len, r, z)) L L2 St S = some (.inl g')) (k : Gd K M p l e R s m args below meth c Q S0 ρ0 g') : Gd K M p l e R s m args below meth c Q S0 ρ0 (pc, L, L2, St, S) := by
  have hn : len = 1 := hl
  subst hn
  simp only [stepI] at h
  obtain ⟨I, V, W9, G⟩ := S
  split at h
  · split at h
    · rename_i hk hv
      split at h
      · rename_i hi
        simp only [nx] at h
        cases h
        exact g_aastore C0 hd hk hv hi.1 hi.2 k
      · cases h
    · cases h
  · cases h
end STEP16
