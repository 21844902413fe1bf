/-! SOUNDNESS: the dispatcher, putfield -/
theorem fget_I {I : OId → Nat → Int32} {V W9 : OId → Nat → AV} {G : SG} {a k : Nat} {o : OId} {x : Int32} (hc : a = 0 → ¬ o.2.2 = 1) (hs : sk a k = 0 ∨ (sk a k = 3 ∧ bb x = x) ∨ (sk a k = 4 ∧ by8 x = x)) : ∀ q, fget (setI I o k x, V, W9, G) a q o = if q = k then aI x else fget (I, V, W9, G) a q o := by
  intro q
  rw [fget_sk (S := (setI I o k x, V, W9, G)) hc, fget_sk (S := (I, V, W9, G)) hc]
  by_cases e : q = k
  · subst e
    rw [if_pos rfl]
    have h1 : setI I o q x o q = x := by rw [setI_at, if_pos rfl]
    rcases hs with h | ⟨h, hb⟩ | ⟨h, hb⟩
    · rw [h]
      show aI (setI I o q x o q) = aI x
      rw [h1]
    · rw [h]
      show aI (bb (setI I o q x o q)) = aI x
      rw [h1, hb]
    · rw [h]
      show aI (by8 (setI I o q x o q)) = aI x
      rw [h1, hb]
  · rw [if_neg e]
    have h1 : setI I o k x o q = I o q := by rw [setI_at, if_neg e]
    simp only [h1]
theorem fget_V {I : OId → Nat → Int32} {V W9 : OId → Nat → AV} {G : SG} {a k : Nat} {o : OId} {w : AV} (hc : a = 0 → ¬ o.2.2 = 1) (hs : sk a k = 2) : ∀ q, fget (I, setV V o k w, W9, G) a q o = if q = k then w else fget (I, V, W9, G) a q o := by
  intro q
  rw [fget_sk (S := (I, setV V o k w, W9, G)) hc, fget_sk (S := (I, V, W9, G)) hc]
  by_cases e : q = k
  · subst e
    rw [if_pos rfl, hs]
    show setV V o q w o q = w
    rw [setV_at, if_pos rfl]
  · rw [if_neg e]
    have h1 : setV V o k w o q = V o q := by rw [setV_at, if_neg e]
    simp only [h1]
theorem fget_R {I : OId → Nat → Int32} {V W9 : OId → Nat → AV} {G : SG} {a k : Nat} {o : OId} {w : AV} (hc : a = 0 → ¬ o.2.2 = 1) (hs : sk a k = 1) : ∀ q, fget (I, V, setV W9 o k w, G) a q o = if q = k then w else fget (I, V, W9, G) a q o := by
  intro q
  rw [fget_sk (S := (I, V, setV W9 o k w, G)) hc, fget_sk (S := (I, V, W9, G)) hc]
  by_cases e : q = k
  · subst e
    rw [if_pos rfl, hs]
    show setV W9 o q w o q = w
    rw [setV_at, if_pos rfl]
  · rw [if_neg e]
    have h1 : setV W9 o k w o q = W9 o q := by rw [setV_at, if_neg e]
    simp only [h1]
section STEP17
variable {K : KX} {M : Nat} {p : Program} {l : Launch} {e : Env} {R : Room} {s : State} {m : MethodId} {args : Array Value} {below : List Frame} {meth : Method} {c : Code} {Q : State → Prop} {S0 : SS} {ρ0 ρ' : OId → Nat}
variable {L : List (Option AV)} {L2 : List (Nat × AV)} {St : List AV} {S S' : SS} {pc len : Nat} {z : Int} {r : Nat × Nat × Nat × Nat} {cm : Nat → List AV → SS → Option Out} {hs : List HE} {rt : Option FieldType} {g' : Cfg}
theorem sd_putfield {i : Nat} (C0 : Cx K M p l s m meth c) (hd : decode (mtC M) pc = .ok (.putfield i, len)) (hl : len = iln (.putfield i) len) (h : stepI cm hs rt pc (some (.putfield i, len, r, z)) L L2 St S = some (.inl g')) (hlp : lP (mE M) pc (.putfield i, len, r, z)) (k : Gd K M p l e R s m args below meth c Q S0 ρ0 g') : Gd K M p l e R s m args below meth c Q S0 ρ0 (pc, L, L2, St, S) := by
  have hn : len = 3 := hl
  subst hn
  obtain ⟨I, V, W9, G⟩ := S
  simp only [stepI] at h
  split at h
  · split at h
    · rename_i hq
      obtain ⟨hk, hro, hq9⟩ := hq
      obtain ⟨t0, t3, t4, t1, t2⟩ := sk_ty r.1 (nfl_lt hq9) r.2.1 hq9
      have hc := ro_0 hk hro
      split at h
      · rename_i hsk
        simp only [nx] at h
        cases h
        exact g_put (a := r.1) (q9 := r.2.1) (nest := r.2.2.1) C0 hd hk hro hq9 hlp.1 hlp.2 (fun o' ho => setI_ne ho) (fun _ _ => rfl) (fun _ _ => rfl) (fun q _ => fget_I hc (Or.inl hsk) q) (fun ρ => by rw [t0 hsk]; exact ⟨rfl, rfl⟩) (fun h _ => h) k
      · rename_i hsk
        split at h
        · rename_i hx
          simp only [nx] at h
          cases h
          exact g_put (a := r.1) (q9 := r.2.1) (nest := r.2.2.1) C0 hd hk hro hq9 hlp.1 hlp.2 (fun o' ho => setI_ne ho) (fun _ _ => rfl) (fun _ _ => rfl) (fun q _ => fget_I hc (Or.inr (Or.inl ⟨hsk, bb_of hx⟩)) q) (fun ρ => by rw [t3 hsk]; exact nar_bool hx) (fun h _ => h) k
        · cases h
      · rename_i hsk
        split at h
        · rename_i hx
          simp only [nx] at h
          cases h
          exact g_put (a := r.1) (q9 := r.2.1) (nest := r.2.2.1) C0 hd hk hro hq9 hlp.1 hlp.2 (fun o' ho => setI_ne ho) (fun _ _ => rfl) (fun _ _ => rfl) (fun q _ => fget_I hc (Or.inr (Or.inr ⟨hsk, hx⟩)) q) (fun ρ => by rw [t4 hsk]; exact nar_byte hx) (fun h _ => h) k
        · cases h
      · rename_i o' hsk
        simp only [nx] at h
        cases h
        exact g_put (a := r.1) (q9 := r.2.1) (nest := r.2.2.1) C0 hd hk hro hq9 hlp.1 hlp.2 (fun _ _ => rfl) (fun _ _ => rfl) (fun o' ho => setV_ne ho) (fun q _ => fget_R hc hsk q) (fun ρ => nar_ref (t1 hsk) (av_isA C0.hn rfl)) (fun h hw => okR h ⟨hw, fun ha => by unfold arR at ha; rw [hk] at ha; cases ha⟩) k
      · rename_i o' hsk
        simp only [nx] at h
        cases h
        exact g_put (a := r.1) (q9 := r.2.1) (nest := r.2.2.1) C0 hd hk hro hq9 hlp.1 hlp.2 (fun _ _ => rfl) (fun o' ho => setV_ne ho) (fun _ _ => rfl) (fun q _ => fget_V hc hsk q) (fun ρ => nar_ref (t2 hsk) (av_isA C0.hn rfl)) (fun h hw => okW h hw) k
      · cases h
    · cases h
  · cases h
end STEP17
