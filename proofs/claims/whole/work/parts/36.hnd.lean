/-! SOUNDNESS: exceptions that are caught; the clone -/
def ctO (x : Nat) : Nat := match x with
  | 0 => 13
  | 1 => 15
  | 2 => 20
  | 3 => 29
  | 4 => 44
  | _ => 90
theorem six {x : Nat} (h : x < 6) : x = 0 ∨ x = 1 ∨ x = 2 ∨ x = 3 ∨ x = 4 ∨ x = 5 := by omega
theorem ct_ne (x : Nat) : ctO x ≠ 0 := by
  unfold ctO
  split <;> decide
theorem ct_link {x : Nat} (h : x < 6) : Cond.classLink "FrequencyOfficeLaw" (ctO x) (exN x) ∈ GB := by
  rcases six h with rfl | rfl | rfl | rfl | rfl | rfl
  · exact wd_1526
  · exact wd_1527
  · exact wd_1528
  · exact wd_1529
  · exact wd_1530
  · exact wd_1531
theorem ct_cast {x : Nat} (h : x < 6) : Cond.castable (exN x) (exN x) ∈ GB := by
  rcases six h with rfl | rfl | rfl | rfl | rfl | rfl
  · exact wd_1532
  · exact wd_1533
  · exact wd_1534
  · exact wd_1535
  · exact wd_1536
  · exact wd_1537
noncomputable def hRb (cc : ByteArray) (n : Nat) : List HE → List (Nat × Nat × Nat × Nat) → Bool
  | [], [] => true
  | (a, b, h, k, x) :: r, (a', b', h0, ct) :: r' => decide (a = a' ∧ b = b' ∧ ct = ctO x ∧ x < 6 ∧ k < n) && (decide (h = h0 + 2 ∧ decode cc h0 = .ok (.astore k, 2)) || decide (∃ i : Fin 4, i.val = k ∧ h = h0 + 1 ∧ decode cc h0 = .ok (.astore_n i, 1))) && hRb cc n r r'
  | _, _ => false
noncomputable def hRm (M : Nat) : Bool := hRb (mtC M) (mtL M) (mtH M) (hhT.getD M []) && (match mtH M with | [] => true | _ => decide ((mtY M).cls = "FrequencyOfficeLaw"))
set_option maxRecDepth 100000 in
theorem hR_all : (List.range 311).all hRm = true := by decide +kernel
theorem hR_of {M : Nat} (h : M < 311) : hRm M = true := List.all_eq_true.mp hR_all M (List.mem_range.mpr h)
theorem hnd_split {cc : ByteArray} {n pc h k : Nat} {E : String} : ∀ {hs : List HE} {hh : List (Nat × Nat × Nat × Nat)}, hRb cc n hs hh = true → hnd hs pc E = some (h, k) →
    ∃ (pre : List ExceptionTableEntry) (x : ExceptionTableEntry) (suf : List ExceptionTableEntry) (x0 : Nat), tableOf hh = pre ++ x :: suf ∧ E = exN x0 ∧ x0 < 6 ∧ covers x pc = true ∧ x.catchType = ctO x0 ∧ (∀ z ∈ pre, covers z pc = false ∨ ∃ x1, x1 < 6 ∧ z.catchType = ctO x1 ∧ x0 ≠ x1) ∧ ((h = x.handlerPc + 2 ∧ decode cc x.handlerPc = .ok (.astore k, 2)) ∨ ∃ i : Fin 4, i.val = k ∧ h = x.handlerPc + 1 ∧ decode cc x.handlerPc = .ok (.astore_n i, 1)) ∧ k < n
  | [], _, _, h2 => by cases h2
  | q :: r, [], h1, _ => by
    obtain ⟨a, b, h', k', x⟩ := q
    cases h1
  | q :: r, y :: r', h1, h2 => by
    obtain ⟨a, b, h', k', x⟩ := q
    obtain ⟨a', b', h0, ct⟩ := y
    simp only [hRb, Bool.and_eq_true, Bool.or_eq_true, decide_eq_true_eq] at h1
    obtain ⟨⟨⟨rfl, rfl, rfl, hx, hk⟩, hst⟩, hr⟩ := h1
    unfold hnd at h2
    by_cases hc : a ≤ pc ∧ pc < b ∧ exN x = E
    · rw [if_pos hc] at h2
      cases h2
      exact ⟨[], ⟨a, b, h0, ctO x⟩, tableOf r', x, rfl, hc.2.2.symm, hx, by simp only [covers, Bool.and_eq_true, decide_eq_true_eq]; exact ⟨hc.1, hc.2.1⟩, rfl, (fun z hz => absurd hz List.not_mem_nil), hst, hk⟩
    · rw [if_neg hc] at h2
      obtain ⟨pre, x9, suf, x0, e1, e2, e3, e4, e5, e6, e7, e8⟩ := hnd_split hr h2
      refine ⟨⟨a, b, h0, ctO x⟩ :: pre, x9, suf, x0, ?_, e2, e3, e4, e5, ?_, e7, e8⟩
      · show (⟨a, b, h0, ctO x⟩ : ExceptionTableEntry) :: tableOf r' = _
        rw [e1]
        rfl
      · intro z hz
        rcases List.mem_cons.mp hz with rfl | hz
        · by_cases hcv : a ≤ pc ∧ pc < b
          · refine Or.inr ⟨x, hx, rfl, fun q => hc ⟨hcv.1, hcv.2, ?_⟩⟩
            rw [e2, q]
          · refine Or.inl ?_
            simp only [covers, Bool.and_eq_false_iff, decide_eq_false_iff_not]
            by_cases h9 : a ≤ pc
            · exact Or.inr (fun q => hcv ⟨h9, q⟩)
            · exact Or.inl h9
        · exact e6 z hz
section STEP25
variable {K : KX} {M : Nat} {p : Program} {l : Launch} {e : Env} {R : Room} {s : State} {m : MethodId} {args : Array Value} {below : List Frame} {meth : Method} {c : Code} {Q : State → Prop} {S0 : SS} {ρ0 ρ' : OId → Nat}
variable {ρ : OId → Nat} {H H0 H1 : Heap} {locs locs1 : List Loc} {ls : Array Slot} {L : List (Option AV)} {L2 : List (Nat × AV)} {St : List AV} {S S' : SS} {pc n : Nat} {z : Int} {r : Nat × Nat × Nat × Nat}
variable {i q1 q2 q4 zz d : Nat} {cm : Nat → List AV → SS → Option Out} {hs : List HE} {g' : Cfg} {o9 : Out}
/-- a store of one word that the small machine doesn't keep -/
theorem Fs.st0 {k : Nat} {x : Value} {ls' : Array Slot} (F : Fs K M S0 ρ0 H0 ρ H locs ls L L2 St S) (hn : xn K = .null ∨ ∃ a, xn K = .ref a)
    (h : lv_has ls' (mtL M) ((k, x) :: (lvl K ρ L L2).filter (fun q => !(q.1 == k) && !(q.1 + 1 == k && q.2.category == 2)))) : Fs K M S0 ρ0 H0 ρ H locs ls' (L.set k none) (kil L2 k) St S := by
  refine ⟨F.1, ⟨⟨h.1, h.2.1, fun q hq => h.2.2 q ?_⟩, by rw [List.length_set]; exact F.2.1.2.1, fun w hw => ?_, fun q hq => F.2.1.2.2.2 q (List.mem_filter.mp hq).1⟩, F.2.2⟩
  · rcases lvl_mem.mp hq with ⟨w, h1, h2⟩ | ⟨w, h1, h2⟩
    · rw [List.getElem?_set] at h1
      by_cases hk : k = q.1
      · rw [if_pos hk] at h1
        split at h1
        · cases h1
        · cases h1
      · rw [if_neg hk] at h1
        refine List.mem_cons_of_mem _ (List.mem_filter.mpr ⟨lvl_mem.mpr (Or.inl ⟨w, h1, h2⟩), ?_⟩)
        have h3 := av_cat (ρ := ρ) hn (F.2.1.2.2.1 w (List.mem_of_getElem? h1)).2
        rw [h2, h3]
        simp [Ne.symm hk]
    · obtain ⟨h3, h4⟩ := List.mem_filter.mp h1
      refine List.mem_cons_of_mem _ (List.mem_filter.mpr ⟨lvl_mem.mpr (Or.inr ⟨w, h3, h2⟩), ?_⟩)
      simp only [Bool.and_eq_true, Bool.not_eq_true', beq_eq_false_iff_ne, ne_eq] at h4
      simp [h4.1, h4.2]
  · rcases List.mem_or_eq_of_mem_set hw with h1 | h1
    · exact F.2.1.2.2.1 w h1
    · cases h1
/-- an exception that is caught here -/
theorem g_hnd {E : String} {h k : Nat} (C0 : Cx K M p l s m meth c) (ht : c.exceptionTable.toList = tableOf (hhT.getD M [])) (hM : M < 311) (hh : hnd (mtH M) pc E = some (h, k)) (hk : k < L.length) (kk : Gd K M p l e R s m args below meth c Q S0 ρ0 (h, L.set k none, kil L2 k, [], S)) : GdX K M p l e R s m args below meth c Q S0 ρ0 E pc L L2 S := by
  intro ρ H locs ls q9 ce rest F h1 h2 h3
  have hb := hR_of hM
  simp only [hRm, Bool.and_eq_true] at hb
  obtain ⟨pre, x, suf, x0, e1, rfl, e3, e4, e5, e6, e7, e8⟩ := hnd_split hb.1 hh
  have hcl : (mtY M).cls = "FrequencyOfficeLaw" := by
    have h9 := hb.2
    split at h9
    · rename_i he
      rw [he] at hh
      cases hh
    · exact of_decide_eq_true h9
  have hown := C0.2.2.2.1
  rw [hcl] at hown
  obtain ⟨-, -, -, -, -, -, -, -, -, -, -, -, -, b5, b6, -, b8, b9, -⟩ := C0.2.2.2.2.1
  refine vx_catch (own := "FrequencyOfficeLaw") (name := exN x0) hown pre x suf (ht.trans e1) ?_ e4 (by rw [e5]; exact ct_ne x0) (by rw [e5]; exact C0.gp _ (ct_link e3) args) (C0.gp _ (ct_cast e3) args) h1 h2 h3 ?_
  · intro z hz
    rcases e6 z hz with h9 | ⟨x1, f1, f2, f3⟩
    · exact Or.inl h9
    · exact Or.inr ⟨by rw [f2]; exact ct_ne x1, exN x1, by rw [f2]; exact C0.gp _ (ct_link f1) args, b9 x0 x1 e3 f1 f3⟩
  · rcases e7 with ⟨rfl, hd⟩ | ⟨i, rfl, rfl, hd⟩
    · exact lv_astore C0.1 C0.2.1 hd F.2.1.1 e8 rfl (fun ls' h' => kk ρ H locs ls' (F.st0 C0.hn h'))
    · exact lv_astore_n C0.1 C0.2.1 hd rfl F.2.1.1 e8 rfl (fun ls' h' => kk ρ H locs ls' (F.st0 C0.hn h'))
theorem aft_h {rest : List AV} {x : Option Out} (h : aft hs pc L L2 rest x = some (.inl g')) : ∃ y S', x = some (y, S') ∧ ((∃ v, y = .inl v ∧ g' = (pc + 3, L, L2, v.toList ++ rest, S')) ∨ ∃ E a k, y = .inr E ∧ hnd hs pc E = some (a, k) ∧ k < L.length ∧ g' = (a, L.set k none, kil L2 k, [], S')) := by
  cases x with
  | none => cases h
  | some o =>
    obtain ⟨y, S'⟩ := o
    refine ⟨y, S', rfl, ?_⟩
    cases y with
    | inl v =>
      replace h : nx (pc + 3) L L2 (v.toList ++ rest) S' = some (.inl g') := h
      simp only [nx] at h
      cases h
      exact Or.inl ⟨v, rfl, rfl⟩
    | inr E =>
      replace h : (match hnd hs pc E with | some (a, k) => if k < L.length then nx a (L.set k none) (kil L2 k) [] S' else none | none => if hs = [] then some (.inr (.inr E, S')) else none) = some (.inl g') := h
      split at h
      · rename_i a k he
        split at h
        · rename_i hk
          simp only [nx] at h
          cases h
          exact Or.inr ⟨E, a, k, rfl, he, hk, rfl⟩
        · cases h
      · split at h <;> cases h
theorem aft_z {rest : List AV} {x : Option Out} (h : aft hs pc L L2 rest x = some (.inr o9)) : hs = [] := by
  cases x with
  | none => cases h
  | some o =>
    obtain ⟨y, S'⟩ := o
    cases y with
    | inl v =>
      replace h : nx (pc + 3) L L2 (v.toList ++ rest) S' = some (.inr o9) := h
      simp only [nx] at h
      cases h
    | inr E =>
      replace h : (match hnd hs pc E with | some (a, k) => if k < L.length then nx a (L.set k none) (kil L2 k) [] S' else none | none => if hs = [] then some (.inr (.inr E, S')) else none) = some (.inr o9) := h
      split at h
      · split at h
        · simp only [nx] at h
          cases h
        · cases h
      · split at h
        · assumption
        · cases h
/-- a static call, in any method -/
theorem sd_k0H (C0 : Cx K M p l s m meth c) (ih : IH K l d cm) (hX : mtH M = [] ∨ M < 311 ∧ c.exceptionTable.toList = tableOf (hhT.getD M [])) (hd : decode (mtC M) pc = .ok (.invokestatic i, 3)) (h : inv cm (mtH M) pc (q1, q2, 0, q4) L L2 St S = some (.inl g')) (hlp : cP (mtY M).cls i (q1, q2, 0, q4) zz) (hR : d + 11 ≤ R.frames ∧ 64 * d + 264 ≤ R.locals) (hcells : cel g'.2.2.2.2 - cel S0 ≤ R.cells) (hslots : slo g'.2.2.2.2 - slo S0 ≤ R.slots) (k : Gd K M p l e R s m args below meth c Q S0 ρ0 g') : Gd K M p l e R s m args below meth c Q S0 ρ0 (pc, L, L2, St, S) := by
  replace h : (if q1 < 311 ∧ q2 ≤ St.length ∧ St.length ≤ q2 + 4 then aft (mtH M) pc L L2 (St.drop q2) (cm q1 (St.take q2).reverse S) else none) = some (.inl g') := h
  split at h
  · rename_i hq
    obtain ⟨y, S', hc, hy⟩ := aft_h h
    obtain ⟨hm, hcm⟩ := ih _ _ _ _ hq.1 hc
    rcases hy with ⟨v, rfl, rfl⟩ | ⟨E, a, k9, rfl, h1, h2, rfl⟩
    · exact g_k0 C0 hd hq.1 hlp.1 hlp.2.1 hlp.2.2 hq.2.1 hq.2.2 hR hcm hm hcells hslots (fun v' hv' => by cases hv'; exact k) (fun E hE => by cases hE)
    · exact g_k0 C0 hd hq.1 hlp.1 hlp.2.1 hlp.2.2 hq.2.1 hq.2.2 hR hcm hm hcells hslots (fun v' hv' => by cases hv') (fun E' hE => by
        cases hE
        rcases hX with hz | ⟨hM, ht⟩
        · rw [hz] at h1
          cases h1
        · exact g_hnd C0 ht hM h1 h2 k)
  · cases h
theorem inv_kvH {k9 : Nat} {x : Option (Cfg ⊕ Out)} (hk : k9 = 2 ∨ k9 = 3 ∨ k9 = 4 ∨ k9 = 8 ∨ k9 = 5 ∨ k9 = 6 ∨ k9 = 7) : inv cm hs pc (q1, q2, k9, q4) L L2 St S = if q1 < 311 ∧ k9 < 9 ∧ q2 + 1 ≤ St.length ∧ St.length ≤ q2 + 5 ∧ rcv q4 (St.getD q2 aN) = true then aft hs pc L L2 (St.drop (q2 + 1)) (cm q1 (St.take (q2 + 1)).reverse S) else none := by
  rcases hk with rfl | rfl | rfl | rfl | rfl | rfl | rfl <;> rfl
/-- a call with a receiver, in any method -/
theorem sd_kvH {k9 : Nat} {ins : Instr} (C0 : Cx K M p l s m meth c) (ih : IH K l d cm) (hX : mtH M = [] ∨ M < 311 ∧ c.exceptionTable.toList = tableOf (hhT.getD M [])) (hins : ins = .invokevirtual i ∧ (k9 = 2 ∨ k9 = 3 ∨ k9 = 4 ∨ k9 = 8) ∨ ins = .invokespecial i ∧ (k9 = 5 ∨ k9 = 6 ∨ k9 = 7)) (hd : decode (mtC M) pc = .ok (ins, 3)) (h : inv cm (mtH M) pc (q1, q2, k9, q4) L L2 St S = some (.inl g')) (hh : hhT.getD q1 [] = []) (ha : 0 < nfl q4) (hlp : cP (mtY M).cls i (q1, q2, k9, q4) zz) (hR : d + 11 ≤ R.frames ∧ 64 * d + 264 ≤ R.locals) (hcells : cel g'.2.2.2.2 - cel S0 ≤ R.cells) (hslots : slo g'.2.2.2.2 - slo S0 ≤ R.slots) (k : Gd K M p l e R s m args below meth c Q S0 ρ0 g') : Gd K M p l e R s m args below meth c Q S0 ρ0 (pc, L, L2, St, S) := by
  rw [inv_kvH (x := none) (kv_or hins)] at h
  split at h
  · rename_i hq
    obtain ⟨y, S', hc, hy⟩ := aft_h h
    obtain ⟨hm, hcm⟩ := ih _ _ _ _ hq.1 hc
    obtain ⟨o, ho, hk⟩ := rcv_eq hq.2.2.2.2
    rcases hy with ⟨v, rfl, rfl⟩ | ⟨E, a, k9, rfl, h1, h2, rfl⟩
    · exact g_kv C0 hins hd hq.1 hh hlp hq.2.2.1 hq.2.2.2.1 ho hk ha hR hcm hm hcells hslots (fun v' hv' => by cases hv'; exact k) (fun E hE => by cases hE)
    · exact g_kv C0 hins hd hq.1 hh hlp hq.2.2.1 hq.2.2.2.1 ho hk ha hR hcm hm hcells hslots (fun v' hv' => by cases hv') (fun E' hE => by
        cases hE
        rcases hX with hz | ⟨hM, ht⟩
        · rw [hz] at h1
          cases h1
        · exact g_hnd C0 ht hM h1 h2 k)
  · cases h
theorem sd_clone (C0 : Cx K M p l s m meth c) (hd : decode (mtC M) pc = .ok (.invokevirtual i, 3)) (h : inv cm hs pc (q1, q2, 22, q4) L L2 St S = some (.inl g')) (hlp : cP (mtY M).cls i (q1, q2, 22, q4) zz) (hR : 1 ≤ R.frames ∧ 100 ≤ R.locals) (hcells : cel g'.2.2.2.2 - cel S0 ≤ R.cells) (hslots : slo g'.2.2.2.2 - slo S0 ≤ R.slots) (k : Gd K M p l e R s m args below meth c Q S0 ρ0 g') : Gd K M p l e R s m args below meth c Q S0 ρ0 (pc, L, L2, St, S) := by
  replace h : (match St with | .inr o :: r => (match kOf o, mkA S .byte ((match kOf o with | .inr q9 => q9.2 | .inl _ => 0)) with | .inr (.byte, _), some (o', S') => if isRo o = false ∧ r.length ≤ 4 ∧ S.2.2.2.2.2.1 = [] then nx (pc + 3) L L2 (aR o' :: r) (setRow S'.1 o' (S.1 o), S'.2) else none | _, _ => none) | _ => none) = some (.inl g') := h
  split at h
  · rename_i o rest
    split at h
    · rename_i n o' S' hk hm
      split at h
      · rename_i hq
        simp only [nx] at h
        cases h
        rw [hk] at hm
        exact g_clone C0 hlp hd hk hq.1 hm hR hq.2.1 hcells hslots k
      · cases h
    · cases h
  · cases h
end STEP25
