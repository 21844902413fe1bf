/-! THE CLAIM OUT OF ONE WALK OF THE LAW'S BODY. Your part is whole_start (and what it stands on); all else here is the same for every law, but numbers. -/
def R_law : String := "FrequencyOfficeLaw"
def lw_P (b : Addr) (xs : List Int32) (args : Array Value) (s : State) : Prop := args = #[.ref b] ∧ s.IntsAt b xs ∧ xs.length ≤ 2048 ∧ (Jvm.Cond.and given_1 narrow_1).before args s = true
/-- what a walk over the start with the record d0 says of its end, said of the start itself -/
theorem lw_closed {s t : State} {o : Outcome} {d0 : Drawn} {L : List Loc} {k n : Nat} (hd0 : s.drawn.sameBut d0 lw_cs) (hv : ∃ v, o = .returned v) (hW : (s.setDrawn d0).WarmedH t.vm) (hs : (s.setDrawn d0).sameButNew ({ t with vm := s.vm } : State) L k n) : State.butDraws s t lw_cs (fun t1 => Framed s o t1 L k n) := by
  have h2 : t.drawn = d0 := congrArg State.drawn hs.1
  refine ⟨⟨hv, hW, State.sameButNew.setDrawn hs s.drawn⟩, ?_, by decide⟩
  rw [h2]
  exact hd0
def lw_Q (_ : Array Value) (s : State) (o : Outcome) (t : State) : Prop := o = .returned (some (.int 1)) ∧ State.butDraws s t lw_cs (fun t1 => Framed s o t1 [] 603072 7194730)
def lw_Z (below : List Frame) (a : Array Value) (s : State) : State → Prop := fun t => ∃ o, t.status = .running ∧ Ended t below o ∧ lw_Q a s o t
/-- the law's own end, with 1 on the stack, nothing written that was there before, its room as the claim has it; d0: the record of draws at this point (at the entry s.drawn: begin with 'refine W.base ?_' and 'have hd0 := Drawn.sameBut.refl s.drawn lw_cs') -/
theorem lw_ret {p : Program} {l : Launch} {e : Env} {s : State} {m : MethodId} {below : List Frame} {meth : Method} {c : Code} {b : Nat} {d0 : Drawn} (hd0 : s.drawn.sameBut d0 lw_cs) (hx : p.tables.exec = Jvm.exec) (hb : c.code = code) (hr : meth.sig.returnType = ret) (hlocks : meth.locks = false) {pc : Nat} {H : Heap} {ls : Array Slot} (hdg : decode code pc = .ok (.ireturn, 1)) : W p l e room_1 (s.setDrawn d0) m #[Value.ref b] below meth c H [] 603072 7194730 (lw_Z below #[Value.ref b] s) (F0 m pc ls [.int 1]) := by
  intro T hT X
  obtain ⟨fs, hret, hrun, hended, hW, hframe⟩ := X.leave (v := some (.int 1)) (hlocks := hlocks) (fun h => by rw [hr] at h; cases h)
  have hmeth' : T.vm.method? m = some meth := X.method'
  refine ⟨T.setFrames fs, ?_, .returned (some (.int 1)), hrun, hended, rfl, lw_closed hd0 ⟨_, rfl⟩ hW hframe⟩
  jvm_step X.here [X.here.top, hx, hb, hdg, hmeth', hr, ret, narrow_b1]
  (try refine ⟨rfl, ?_⟩); (try refine ⟨rfl, ?_⟩)
  first | (intro acts; rw [hret _ acts rfl rfl rfl]) | rw [hret _ _ rfl rfl rfl]
  exact Steps.refl _
/-- what holds at the law's entry: the machine, the code, the tables' words (any of lw_tbl by 'hts w (by decide +kernel)'), the script of L ints xs at the cell b, what the Statement gives of the start (any of its parts by flat_of_before) -/
def lw_At (p : Program) (s : State) (m : MethodId) (meth : Method) (c : Code) (b L : Nat) (xs : Nat → Int32) : Prop :=
  p.tables.exec = Jvm.exec ∧ c.code = code ∧ meth.sig.returnType = ret ∧ c.maxLocals = 8 ∧ s.vm.findClass R_law = some m.cls ∧ (∀ w ∈ lw_tbl, w.before #[Value.ref b] s = true) ∧ va_X b L xs s s.heap ∧ b < s.heap.size ∧ meth.locks = false ∧ (Jvm.Cond.and given_1 narrow_1).before #[Value.ref b] s = true ∧ meth.name = x.name

/-! the law's own run -/
theorem aft_v {hs : List HE} {pc : Nat} {L : List (Option AV)} {L2 : List (Nat × AV)} {rest : List AV} {y : Option Out} {v : Option AV} {S9 : SS} : ¬ aft hs pc L L2 rest y = some (.inr (.inl v, S9)) := by
  intro h
  cases y with
  | none => cases h
  | some o =>
    obtain ⟨y, S'⟩ := o
    cases y with
    | inl w =>
      replace h : nx (pc + 3) L L2 (w.toList ++ rest) S' = some (.inr (.inl v, S9)) := h
      simp only [nx] at h
      cases h
    | inr E =>
      replace h : (match hnd hs pc E with | some (a, k) => if k < L.length then nx a (L.set k none) (kil L2 k) [] S' else none | none => if hs = [] then some (.inr (.inr E, S')) else none) = some (.inr (.inl v, S9)) := h
      split at h
      · split at h
        · simp only [nx] at h
          cases h
        · cases h
      · split at h <;> cases h
theorem inv_v {cm : Nat → List AV → SS → Option Out} {hs : List HE} {pc : Nat} {r : Nat × Nat × Nat × Nat} {L : List (Option AV)} {L2 : List (Nat × AV)} {St : List AV} {S : SS} {v : Option AV} {S9 : SS} : ¬ inv cm hs pc r L L2 St S = some (.inr (.inl v, S9)) := by
  intro h
  unfold inv at h
  split at h
  · split at h
    · exact aft_v h
    · cases h
  · split at h
    · exact aft_v h
    · cases h
  all_goals first
    | (split at h
       · exact aft_v h
       · cases h)
    | ((repeat' split at h) <;> first | (cases h; done) | (simp only [nx] at h; cases h))
set_option maxHeartbeats 4000000 in
theorem fin_i {cm : Nat → List AV → SS → Option Out} {hs : List HE} {rt : Option FieldType} {pc : Nat} {ins : Instr} {len : Nat} {r : Nat × Nat × Nat × Nat} {z : Int} {L : List (Option AV)} {L2 : List (Nat × AV)} {St : List AV} {S : SS} {x : Int32} {S9 : SS} (h : stepI cm hs rt pc (some (ins, len, r, z)) L L2 St S = some (.inr (.inl (some (aI x)), S9))) : ins = .ireturn ∧ St = [aI x] ∧ S9 = S := by
  cases ins
  case invokestatic => exact absurd h inv_v
  case invokevirtual => exact absurd h inv_v
  case invokespecial => exact absurd h inv_v
  case ireturn =>
    refine ⟨rfl, ?_⟩
    simp only [stepI, done] at h
    split at h
    · split at h
      · cases h
        exact ⟨rfl, rfl⟩
      · cases h
    · cases h
  all_goals
    exfalso
    simp only [stepI, nx, st1, st2, done] at h
    try ((repeat' split at h) <;> cases h)
theorem mtH_law : mtH 311 = [] := rfl
section LAWRUN
variable {K : KX} {p : Program} {l : Launch} {e : Env} {R : Room} {s : State} {m : MethodId} {args : Array Value} {below : List Frame} {meth : Method} {c : Code} {Q : State → Prop} {S0 : SS} {ρ0 : OId → Nat} {cm : Nat → List AV → SS → Option Out} {d : Nat} {S9 : SS}
theorem law_run (C0 : Cx K 311 p l s m meth c) (ih : IH K l d cm) (hR : d + 11 ≤ R.frames ∧ 64 * d + 264 ≤ R.locals) (fin : ∀ pc L L2, decode (mtC 311) pc = .ok (.ireturn, 1) → Gd K 311 p l e R s m args below meth c Q S0 ρ0 (pc, L, L2, [aI 1], S9)) (hc : cel S9 - cel S0 ≤ R.cells) (hs : slo S9 - slo S0 ≤ R.slots) :
    ∀ (n : Nat) (g : Cfg), run cm 311 n g = some (.inl (some (aI 1)), S9) → Gd K 311 p l e R s m args below meth c Q S0 ρ0 g
  | 0, _, h => by cases h
  | n + 1, g, h => by
    obtain ⟨pc, L, L2, St, S⟩ := g
    have hcm : ∀ M' as S o, M' < 311 → cm M' as S = some o → Mo S o.2 := fun M' as S o h1 h2 => (ih M' as S o h1 h2).1
    rw [run_s] at h
    cases hi : insAt 311 pc with
    | none =>
      have e9 : stepE cm 311 (pc, L, L2, St, S) = none := by
        show stepI cm (mtH 311) (mtR 311) pc (insAt 311 pc) L L2 St S = none
        rw [hi]
        rfl
      rw [e9] at h
      cases h
    | some q =>
      obtain ⟨ins, len, r, z⟩ := q
      have e9 : stepE cm 311 (pc, L, L2, St, S) = stepI cm (mtH 311) (mtR 311) pc (some (ins, len, r, z)) L L2 St S := by
        show stepI cm (mtH 311) (mtR 311) pc (insAt 311 pc) L L2 St S = _
        rw [hi]
      rw [e9] at h
      cases hx : stepI cm (mtH 311) (mtR 311) pc (some (ins, len, r, z)) L L2 St S with
      | none => rw [hx] at h; cases h
      | some x =>
        rw [hx] at h
        cases x with
        | inr o =>
          cases h
          obtain ⟨rfl, rfl, rfl⟩ := fin_i hx
          have hip := ins_ok hi
          have hd : decode (mtC 311) pc = .ok (.ireturn, len) := hip.1.1
          have hl : len = 1 := hip.1.2
          subst hl
          exact fin pc L L2 hd
        | inl g' =>
          have hmo := run_mo hcm n g' _ h
          exact step_l C0 ih (Or.inl mtH_law) hi hx hR (Nat.le_trans (Nat.sub_le_sub_right hmo.1 _) hc) (Nat.le_trans (Nat.sub_le_sub_right hmo.2 _) hs) (law_run C0 ih hR fin hc hs n g' h)
end LAWRUN
/-- the state of the small machine at the law's entry; nm: the names that are given first -/
def S00 (nm : List OId) (xs : Nat → Int32) : SS := (fun _ _ => 0, fun _ _ => aN, fun _ _ => aN, [], 0, nm, 0, 0, xs)
/-- what the small machine's law must come to -/
def LawOk (nm : List OId) (L : Nat) (xs : Nat → Int32) : Prop := ∃ (d : Nat) (S9 : SS), d ≤ 1400 ∧ evm (d + 1) 311 [aR (44, L, 0)] (S00 nm xs) = some (.inl (some (aI 1)), S9) ∧ cel S9 ≤ 603072 ∧ slo S9 ≤ 7194730
/-- the walk of the law's body, out of the small machine's -/
theorem whole_of {p : Program} {e : Env} {s : State} {m : MethodId} {below : List Frame} {meth : Method} {c : Code} (l : Launch) (hflags : l.flags = flags0) {b L : Nat} {xs : Nat → Int32} (C0 : lw_At p s m meth c b L xs) {nm : List OId} (hnm : ∀ o ∈ nm, kOf o ≠ .inl 3) (hok : LawOk nm L xs) : W p l e room_1 s m #[Value.ref b] below meth c s.heap [] 0 0 (lw_Z below #[Value.ref b] s) (entryFrame m ([Value.ref b] : List Value).toArray 8) := by
  obtain ⟨hx, hb, hr, hml, hown, hts, hX, hbl, hlocks, hgv, hname⟩ := C0
  obtain ⟨K, hE, e1, e2, e3, e4⟩ := env_0 hts hX hbl hgv
  have hst : l.stackTraces = false := by
    unfold Launch.stackTraces
    rw [hflags]
    decide +kernel
  have Cx0 : Cx K 311 p l s m meth c := ⟨hx, hb, hml, hown, hE, hst, hname⟩
  obtain ⟨d, S9, hd, hev, hc9, hs9⟩ := hok
  replace hev : (if (locL [aR (44, L, 0)]).length ≤ mtL 311 then ev (evm d) 311 0 (padL (mtL 311) (locL [aR (44, L, 0)])) (locL2 0 [aR (44, L, 0)]) [] (S00 nm xs) else none) = some (.inl (some (aI 1)), S9) := hev
  have hl : (locL [aR (44, L, 0)]).length ≤ mtL 311 := by
    show 1 ≤ 8
    decide
  rw [if_pos hl] at hev
  obtain ⟨n, hn⟩ := run_of_ev hev
  have hav : ([aR (44, L, 0)].map (av K (fun _ => 0))) = [Value.ref b] := by
    show [Value.ref (xb K)] = _
    rw [e1]
  have hwf : WF K (S00 nm xs) := ⟨List.nodup_nil, fun o h => absurd h List.not_mem_nil, fun o h => absurd h List.not_mem_nil, fun o h => absurd h List.not_mem_nil, e3.symm, hnm⟩
  have hw0 : wsO K (fun _ => 0) (S00 nm xs) = [] := rfl
  have hpic : Pic K (fun _ => 0) (S00 nm xs) s.heap := by
    unfold Pic
    rw [hw0]
    exact ⟨fun k q h => by simp at h, ⟨fun i j p q h => by simp at h, fun k q h => by simp at h⟩⟩
  have hok0 : ∀ v ∈ [aR (44, L, 0)], okA K (lv (S00 nm xs)) v := by
    intro v hv
    rw [List.mem_singleton.mp hv, ← e2]
    exact okA_inr (Or.inr (Or.inl rfl))
  have F0' := Fs_0 (M := 311) Cx0.hn hpic hwf hok0 hl
  have g := law_run (R := room_1) (e := e) (args := #[Value.ref b]) (below := below) (Q := lw_Z below #[Value.ref b] s) (S0 := S00 nm xs) (ρ0 := fun _ => 0) (S9 := S9) Cx0 (cm_ok hst d) ⟨by show d + 11 ≤ 2048; omega, by show 64 * d + 264 ≤ 94400; omega⟩ (fun pc L' L2' hdd => by
    intro ρ H locs ls F
    have hz : ∀ q ∈ locs, s.heap.size ≤ q.base := fun q hq => by
      have h9 := F.1.2.2.1.2.2 q hq
      unfold xA at h9
      rw [e4] at h9
      exact h9
    refine va_forget hz (W.widen (k := 603072) (n := 7194730) hc9 hs9 (W.base ?_))
    exact lw_ret (Drawn.sameBut.refl s.drawn lw_cs) hx hb hr hlocks hdd) hc9 hs9 n _ hn (fun _ => 0) s.heap [] _ F0'
  rw [hav] at g
  rw [lg_entry_eq]
  exact g
