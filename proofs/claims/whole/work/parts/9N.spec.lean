/-! THE METHODS' MEANING: what constructors make -/
/-- names still to be given may be given -/
def namW (S : SS) : Prop := (nms S).Nodup ∧ ∀ o, o ∈ nms S → o ∉ S.2.2.2.1 ∧ isRo o = false ∧ ¬ (o.1 < 2 ∧ o.2.2 = 2) ∧ o.1 ≠ 60
/-- made: only P is touched, the names l are given, a objects, b slots -/
def mdN (P : OId → Prop) (S S' : SS) (l : List OId) (a b : Nat) : Prop := (∀ x, ¬ P x → S'.1 x = S.1 x ∧ S'.2.1 x = S.2.1 x ∧ S'.2.2.1 x = S.2.2.1 x) ∧ nms S = l ++ nms S' ∧ namW S' ∧ nq S ≤ nq S' ∧ cel S' = cel S + a ∧ slo S' = slo S + b ∧ xsS S' = xsS S ∧ ∀ x, x ∈ S'.2.2.2.1 → x ∈ S.2.2.2.1 ∨ x ∈ l
theorem mdN.tr {P : OId → Prop} {S S1 S2 : SS} {l l' : List OId} {a b a' b' : Nat} (h : mdN P S S1 l a b) (h' : mdN P S1 S2 l' a' b') : mdN P S S2 (l ++ l') (a + a') (b + b') := by
  obtain ⟨h1, h2, h3, h4, h5, h6, h7, h8⟩ := h
  obtain ⟨g1, g2, g3, g4, g5, g6, g7, g8⟩ := h'
  refine ⟨fun x hx => ?_, ?_, g3, by omega, by omega, by omega, g7.trans h7, fun x hx => ?_⟩
  · obtain ⟨a1, a2, a3⟩ := h1 x hx
    obtain ⟨b1, b2, b3⟩ := g1 x hx
    exact ⟨b1.trans a1, b2.trans a2, b3.trans a3⟩
  · rw [h2, g2, List.append_assoc]
  · rcases g8 x hx with q | q
    · rcases h8 x q with q | q
      · exact Or.inl q
      · exact Or.inr (List.mem_append_left _ q)
    · exact Or.inr (List.mem_append_right _ q)
theorem mdN.wk {P Q : OId → Prop} {S S1 : SS} {l : List OId} {a b : Nat} (h : mdN P S S1 l a b) (hq : ∀ x, P x → Q x) : mdN Q S S1 l a b := ⟨fun x hx => h.1 x (fun q => hx (hq x q)), h.2⟩
section MADE
variable {d i j n m : Nat} {S : SS} {o : OId} {ns : List OId} {P : OId → Prop}
theorem mdN.rf (h : namW S) : mdN P S S [] 0 0 := ⟨fun _ _ => ⟨rfl, rfl, rfl⟩, rfl, h, Nat.le_refl _, rfl, rfl, rfl, fun _ q => Or.inl q⟩
theorem md_al (hW : namW S) (hn : nms S = o :: ns) (hP : P o) : mdN P S (mk S o (nq S) ns n) [o] 1 n := by
  have hd := hW.1
  rw [hn] at hd
  obtain ⟨d1, d2⟩ := List.nodup_cons.mp hd
  refine ⟨fun x hx => ?_, hn, ⟨d2, fun x hx => ?_⟩, Nat.le_refl _, rfl, rfl, rfl, fun x hx => List.mem_append.mp hx⟩
  · have hne : x ≠ o := fun q => hx (q ▸ hP)
    exact ⟨mk_I hne, mk_M hne, mk_R hne⟩
  · have hx' : x ∈ ns := hx
    obtain ⟨h1, h2⟩ := hW.2 x (by rw [hn]; exact List.mem_cons_of_mem _ hx')
    refine ⟨fun q => ?_, h2⟩
    rcases List.mem_append.mp q with q | q
    · exact h1 q
    · rw [List.mem_singleton.mp q] at hx'
      exact d1 hx'
theorem md_I {f : Nat} {x : Int32} (hW : namW S) (hP : P o) : mdN P S (setI S.1 o f x, S.2) [] 0 0 := ⟨fun y hy => ⟨setI_o (fun q => hy (q ▸ hP)), rfl, rfl⟩, rfl, hW, Nat.le_refl _, rfl, rfl, rfl, fun _ q => Or.inl q⟩
theorem md_M {f : Nat} {x : AV} (hW : namW S) (hP : P o) : mdN P S (S.1, setV S.2.1 o f x, S.2.2) [] 0 0 := ⟨fun y hy => ⟨rfl, setV_o (fun q => hy (q ▸ hP)), rfl⟩, rfl, hW, Nat.le_refl _, rfl, rfl, rfl, fun _ q => Or.inl q⟩
theorem md_R {f : Nat} {x : AV} (hW : namW S) (hP : P o) : mdN P S (S.1, S.2.1, setV S.2.2.1 o f x, S.2.2.2) [] 0 0 := ⟨fun y hy => ⟨rfl, rfl, setV_o (fun q => hy (q ▸ hP))⟩, rfl, hW, Nat.le_refl _, rfl, rfl, rfl, fun _ q => Or.inl q⟩
theorem nm_ok {k : Nat ⊕ (FieldType × Nat)} (hW : namW S) (hn : nms S = o :: ns) (hk : kOf o = k) : nmOk S o k = true := by
  obtain ⟨h1, h2, h3, h4⟩ := hW.2 o (by rw [hn]; exact List.mem_cons_self)
  unfold nmOk
  rw [decide_eq_true hk, h2, decide_eq_true h3, decide_eq_true h4, decide_eq_true h1]
  rfl
variable {c : Nat → List AV → SS → Option Out} {M pc pc' : Nat} {L : List (Option AV)} {L2 : List (Nat × AV)} {St : List AV} {r : Nat × Nat × Nat × Nat} {z : Int} {k : Nat}
theorem ev_nw (h : insAt M pc = some (.new k, n, r, z)) (hp : pc + 3 = pc') (hr : r.2.2.1 = 0) (hW : namW S) (hn : nms S = o :: ns) (hk : kOf o = .inl r.1) : ev c M pc L L2 St S = ev c M pc' L L2 (aR o :: St) (mk S o (nq S) ns (nfl r.1)) := by
  subst hp
  refine ev_go h ?_
  obtain ⟨r1, r2, r3, r4⟩ := r
  have hr' : r3 = 0 := hr
  subst hr'
  have e : mkC S r1 = some (o, mk S o (nq S) ns (nfl r1)) := by
    unfold mkC
    rw [show S.2.2.2.2.2.1 = o :: ns from hn]
    exact if_pos (nm_ok hW hn hk)
  show (match mkC S r1 with | some (o, S') => nx (pc + 3) L L2 (aR o :: St) S' | none => none) = _
  rw [e]
  rfl
theorem ev_nar {t : ArrayType} (h : insAt M pc = some (.newarray t, n, r, z)) (hp : pc + 2 = pc') (ht : arT t ≠ .byte) (hm : m ≤ 65536) (hW : namW S) (hn : nms S = o :: ns) (hk : kOf o = .inr (arT t, m)) : ev c M pc L L2 (aI (N m) :: St) S = ev c M pc' L L2 (aR o :: St) (mk S o (nq S) ns m) := by
  subst hp
  refine ev_go h ?_
  have h1 : ¬ (N m < 0 ∨ 65536 < (N m).toNatClampNeg) := by
    rw [N_neg (by omega), N_cl (by omega)]
    simp
    omega
  have e : mkA S (arT t) m = some (o, mk S o (nq S) ns m) := by
    unfold mkA
    rw [if_neg ht, show S.2.2.2.2.2.1 = o :: ns from hn]
    exact if_pos (nm_ok hW hn hk)
  show (if N m < 0 ∨ 65536 < (N m).toNatClampNeg then none else match mkA S (arT t) (N m).toNatClampNeg with | some (o, S') => nx (pc + 2) L L2 (aR o :: St) S' | none => none) = _
  rw [if_neg h1, N_cl (by omega), e]
  rfl
theorem ev_anw (h : insAt M pc = some (.anewarray k, n, r, z)) (hp : pc + 3 = pc') (hm : m ≤ 65536) (hW : namW S) (hn : nms S = o :: ns) (hk : kOf o = .inr (if r.1 = 0 then kSt else kBk, m)) : ev c M pc L L2 (aI (N m) :: St) S = ev c M pc' L L2 (aR o :: St) (mk S o (nq S) ns m) := by
  subst hp
  refine ev_go h ?_
  have h1 : ¬ (N m < 0 ∨ 65536 < (N m).toNatClampNeg) := by
    rw [N_neg (by omega), N_cl (by omega)]
    simp
    omega
  have ht : (if r.1 = 0 then kSt else kBk) ≠ .byte := by split <;> simp
  have e : mkA S (if r.1 = 0 then kSt else kBk) m = some (o, mk S o (nq S) ns m) := by
    unfold mkA
    rw [if_neg ht, show S.2.2.2.2.2.1 = o :: ns from hn]
    exact if_pos (nm_ok hW hn hk)
  show (if N m < 0 ∨ 65536 < (N m).toNatClampNeg then none else match mkA S (if r.1 = 0 then kSt else kBk) (N m).toNatClampNeg with | some (o, S') => nx (pc + 3) L L2 (aR o :: St) S' | none => none) = _
  rw [if_neg h1, N_cl (by omega), e]
  rfl
theorem ev_aas {C : String} {o v : OId} {cv : Nat} (h : insAt M pc = some (.aastore, n, r, z)) (hp : pc + 1 = pc') (ho : kOf o = .inr (.object C, m)) (hv : kOf v = .inl cv) (hC : (vwCl.map (fun q => q.1))[cv]? = some C) (hi : i < m) (hm : m < 2147483648) : ev c M pc L L2 (aR v :: aI (N i) :: aR o :: St) S = ev c M pc' L L2 St (S.1, S.2.1, setV S.2.2.1 o i (aR v), S.2.2.2) := by
  subst hp
  refine ev_go h ?_
  have e : stepI c (mtH M) (mtR M) pc (some (.aastore, n, r, z)) L L2 (aR v :: aI (N i) :: aR o :: St) S = (if inB (N i) m = true ∧ (vwCl.map (fun q => q.1))[cv]? = some C then nx (pc + 1) L L2 St (S.1, S.2.1, setV S.2.2.1 o (N i).toNatClampNeg (.inr v), S.2.2.2) else none) := by
    simp only [stepI, ho, hv]
  rw [e, if_pos ⟨inB_N hi hm, hC⟩, N_cl (by omega)]
  rfl
end MADE
