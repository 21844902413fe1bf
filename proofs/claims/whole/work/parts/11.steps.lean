/-! SOUNDNESS: one instruction of the small machine is one of the machine -/
def lvl (K : KX) (ρ : OId → Nat) (L : List (Option AV)) (L2 : List (Nat × AV)) : List (Nat × Value) := (L.zipIdx.filterMap fun q => q.1.map fun v => (q.2, av K ρ v)) ++ L2.map fun q => (q.1, av K ρ q.2)
theorem lvl_mem {K : KX} {ρ : OId → Nat} {L : List (Option AV)} {L2 : List (Nat × AV)} {q : Nat × Value} : q ∈ lvl K ρ L L2 ↔ (∃ v, L[q.1]? = some (some v) ∧ q.2 = av K ρ v) ∨ ∃ v, (q.1, v) ∈ L2 ∧ q.2 = av K ρ v := by
  obtain ⟨i, x⟩ := q
  unfold lvl
  rw [List.mem_append, List.mem_filterMap, List.mem_map]
  constructor
  · rintro (⟨⟨o, j⟩, h1, h2⟩ | ⟨⟨j, v⟩, h1, h2⟩)
    · cases o with
      | none => cases h2
      | some v =>
        cases h2
        exact Or.inl ⟨v, List.mem_zipIdx_iff_getElem?.mp h1, rfl⟩
    · cases h2
      exact Or.inr ⟨v, h1, rfl⟩
  · rintro (⟨v, h1, h2⟩ | ⟨v, h1, h2⟩)
    · exact Or.inl ⟨(some v, i), List.mem_zipIdx_iff_getElem?.mpr h1, by cases h2; rfl⟩
    · exact Or.inr ⟨(i, v), h1, by cases h2; rfl⟩
theorem av_cat {K : KX} {ρ : OId → Nat} (hn : xn K = .null ∨ ∃ a, xn K = .ref a) {v : AV} (h : cat2 v = false) : (av K ρ v).category = 1 := by
  cases v with
  | inl x => cases x <;> first | rfl | cases h
  | inr o =>
    unfold av
    by_cases h48 : o.1 = 48
    · simp only [if_pos h48]
      rcases hn with e | ⟨a, e⟩ <;> rw [e] <;> rfl
    · simp only [if_neg h48]
      rfl
/-- what holds of a method's run at a point: at its start S0, ρ0, H0; now the rest -/
def Fs (K : KX) (M : Nat) (S0 : SS) (ρ0 : OId → Nat) (H0 : Heap) (ρ : OId → Nat) (H : Heap) (locs : List Loc) (ls : Array Slot) (L : List (Option AV)) (L2 : List (Nat × AV)) (St : List AV) (S : SS) : Prop :=
  (Pic K ρ S H ∧ WF K S ∧ va_S (xA K) H0 H locs ∧ cel S0 ≤ cel S ∧ slo S0 ≤ slo S ∧ ∀ o ∈ lv S0, o ∈ lv S ∧ ρ o = ρ0 o) ∧
  (lv_has ls (mtL M) (lvl K ρ L L2) ∧ L.length = mtL M ∧ (∀ v, some v ∈ L → okA K (lv S) v ∧ cat2 v = false) ∧ ∀ q ∈ L2, okA K (lv S) q.2 ∧ cat2 q.2 = true) ∧ ∀ v ∈ St, okA K (lv S) v
/-- a method's surroundings on the machine -/
def Cx (K : KX) (M : Nat) (p : Program) (l : Launch) (s : State) (m : MethodId) (meth : Method) (c : Code) : Prop :=
  p.tables.exec = Jvm.exec ∧ c.code = mtC M ∧ c.maxLocals = mtL M ∧ s.vm.findClass (mtY M).cls = some m.cls ∧ EnvU K s s.heap ∧ l.stackTraces = false ∧ meth.name = (mtY M).name
theorem lcmp_eq (x y : Int64) : lg_cmp x y = if x < y then -1 else if x = y then 0 else 1 := by
  unfold lg_cmp
  simp only [gt_iff_lt, Int64.lt_iff_toInt_lt, ← Int64.toInt_inj]
  by_cases h1 : x.toInt < y.toInt
  · rw [if_neg (by omega), if_neg (by omega), if_pos h1]
  · rw [if_neg h1]
    by_cases h2 : x.toInt = y.toInt
    · rw [if_neg (by omega), if_pos h2, if_pos h2]
    · rw [if_pos (by omega), if_neg h2]
section STEP
variable {K : KX} {M : Nat} {p : Program} {l : Launch} {e : Env} {R : Room} {s : State} {m : MethodId} {args : Array Value} {below : List Frame} {meth : Method} {c : Code} {Q : State → Prop} {S0 : SS} {ρ0 : OId → Nat}
/-- the machine comes to Q from every state that the small machine's point pictures -/
def Gd (K : KX) (M : Nat) (p : Program) (l : Launch) (e : Env) (R : Room) (s : State) (m : MethodId) (args : Array Value) (below : List Frame) (meth : Method) (c : Code) (Q : State → Prop) (S0 : SS) (ρ0 : OId → Nat) (g : Cfg) : Prop :=
  ∀ (ρ : OId → Nat) (H : Heap) (locs : List Loc) (ls : Array Slot), Fs K M S0 ρ0 s.heap ρ H locs ls g.2.1 g.2.2.1 g.2.2.2.1 g.2.2.2.2 → W p l e R s m args below meth c H locs (cel g.2.2.2.2 - cel S0) (slo g.2.2.2.2 - slo S0) Q (F0 m g.1 ls (g.2.2.2.1.map (av K ρ)))
theorem Cx.hn (C0 : Cx K M p l s m meth c) : xn K = .null ∨ ∃ a, xn K = .ref a := C0.2.2.2.2.1.2.2.2.2.2.2.2.2.2.2.2.2.1
variable {ρ : OId → Nat} {H H0 : Heap} {locs : List Loc} {ls : Array Slot} {L : List (Option AV)} {L2 : List (Nat × AV)} {St : List AV} {S : SS} {pc n : Nat} {z : Int} {r : Nat × Nat × Nat × Nat}
theorem Fs.stk {St' : List AV} (F : Fs K M S0 ρ0 H0 ρ H locs ls L L2 St S) (h : ∀ v ∈ St', okA K (lv S) v) : Fs K M S0 ρ0 H0 ρ H locs ls L L2 St' S := ⟨F.1, F.2.1, h⟩
theorem Fs.t1 {a : AV} (F : Fs K M S0 ρ0 H0 ρ H locs ls L L2 (a :: St) S) : okA K (lv S) a ∧ ∀ v ∈ St, okA K (lv S) v := List.forall_mem_cons.mp F.2.2
theorem ok_c {K : KX} {l : List OId} {a : AV} {St : List AV} (h : okA K l a) (t : ∀ v ∈ St, okA K l v) : ∀ v ∈ a :: St, okA K l v := List.forall_mem_cons.mpr ⟨h, t⟩
theorem Fs.pop {a : AV} (F : Fs K M S0 ρ0 H0 ρ H locs ls L L2 (a :: St) S) : Fs K M S0 ρ0 H0 ρ H locs ls L L2 St S := F.stk F.t1.2
theorem Fs.push {x : Value} (F : Fs K M S0 ρ0 H0 ρ H locs ls L L2 St S) : Fs K M S0 ρ0 H0 ρ H locs ls L L2 (.inl x :: St) S := F.stk (ok_c okA_inl F.2.2)
/-- a local of one word -/
theorem Fs.at1 {k : Nat} {v : AV} (F : Fs K M S0 ρ0 H0 ρ H locs ls L L2 St S) (h : L[k]? = some (some v)) : ls[k]? = some (.val (av K ρ v)) ∧ okA K (lv S) v :=
  ⟨F.2.1.1.2.2 (k, av K ρ v) (lvl_mem.mpr (Or.inl ⟨v, h, rfl⟩)), (F.2.1.2.2.1 v (List.mem_of_getElem? h)).1⟩
theorem look_mem {L2 : List (Nat × AV)} {k : Nat} {v : AV} (h : L2.lookup k = some v) : (k, v) ∈ L2 := by
  induction L2 with
  | nil => cases h
  | cons a r ih =>
    obtain ⟨j, w⟩ := a
    by_cases hk : k = j
    · subst hk
      simp [List.lookup] at h
      subst h
      exact List.mem_cons_self
    · have : (k == j) = false := by simpa using hk
      exact List.mem_cons_of_mem _ (ih (by simpa [List.lookup, this] using h))
theorem Fs.at2 {k : Nat} {v : AV} (F : Fs K M S0 ρ0 H0 ρ H locs ls L L2 St S) (h : L2.lookup k = some v) : ls[k]? = some (.val (av K ρ v)) :=
  F.2.1.1.2.2 (k, av K ρ v) (lvl_mem.mpr (Or.inr ⟨v, look_mem h, rfl⟩))
/-- a store of one word -/
theorem Fs.st1 {k : Nat} {v : AV} {ls' : Array Slot} (F : Fs K M S0 ρ0 H0 ρ H locs ls L L2 St S) (hn : xn K = .null ∨ ∃ a, xn K = .ref a) (hv : okA K (lv S) v) (hc : cat2 v = false)
    (h : lv_has ls' (mtL M) ((k, av K ρ v) :: (lvl K ρ L L2).filter (fun q => !(q.1 == k) && !(q.1 + 1 == k && q.2.category == 2)))) : Fs K M S0 ρ0 H0 ρ H locs ls' (L.set k (some v)) (kil L2 k) St S := by
  refine ⟨F.1, ⟨⟨h.1, h.2.1, fun q hq => h.2.2 q ?_⟩, by rw [List.length_set]; exact F.2.1.2.1, fun w hw => ?_, fun q hq => F.2.1.2.2.2 q (List.mem_filter.mp hq).1⟩, F.2.2⟩
  · rcases lvl_mem.mp hq with ⟨w, h1, h2⟩ | ⟨w, h1, h2⟩
    · rw [List.getElem?_set] at h1
      by_cases hk : k = q.1
      · rw [if_pos hk] at h1
        split at h1
        · cases h1
          obtain ⟨i, x⟩ := q
          cases hk; cases h2
          exact List.mem_cons_self
        · cases h1
      · rw [if_neg hk] at h1
        refine List.mem_cons_of_mem _ (List.mem_filter.mpr ⟨lvl_mem.mpr (Or.inl ⟨w, h1, h2⟩), ?_⟩)
        have h3 := av_cat (ρ := ρ) hn (F.2.1.2.2.1 w (List.mem_of_getElem? h1)).2
        rw [h2, h3]
        simp [Ne.symm hk]
    · obtain ⟨h3, h4⟩ := List.mem_filter.mp h1
      refine List.mem_cons_of_mem _ (List.mem_filter.mpr ⟨lvl_mem.mpr (Or.inr ⟨w, h3, h2⟩), ?_⟩)
      simp only [Bool.and_eq_true, Bool.not_eq_true', beq_eq_false_iff_ne, ne_eq] at h4
      simp [h4.1, h4.2]
  · rcases List.mem_or_eq_of_mem_set hw with h1 | h1
    · exact F.2.1.2.2.1 w h1
    · cases h1
      exact ⟨hv, hc⟩
/-- a store of two words -/
theorem Fs.st2 {k : Nat} {v : AV} {ls' : Array Slot} (F : Fs K M S0 ρ0 H0 ρ H locs ls L L2 St S) (hn : xn K = .null ∨ ∃ a, xn K = .ref a) (hv : okA K (lv S) v) (hc : cat2 v = true)
    (h : lv_has ls' (mtL M) ((k, av K ρ v) :: (lvl K ρ L L2).filter (fun q => !(q.1 == k) && (!(q.1 == k + 1) && !(q.1 + 1 == k && q.2.category == 2))))) : Fs K M S0 ρ0 H0 ρ H locs ls' ((L.set k none).set (k + 1) none) ((k, v) :: kil2 L2 k) St S := by
  refine ⟨F.1, ⟨⟨h.1, h.2.1, fun q hq => h.2.2 q ?_⟩, by rw [List.length_set, List.length_set]; exact F.2.1.2.1, fun w hw => ?_, fun q hq => ?_⟩, F.2.2⟩
  · rcases lvl_mem.mp hq with ⟨w, h1, h2⟩ | ⟨w, h1, h2⟩
    · rw [List.getElem?_set, List.getElem?_set, List.length_set] at h1
      by_cases hk1 : k + 1 = q.1
      · rw [if_pos hk1] at h1
        split at h1 <;> cases h1
      · rw [if_neg hk1] at h1
        by_cases hk : k = q.1
        · rw [if_pos hk] at h1
          split at h1 <;> cases h1
        · rw [if_neg hk] at h1
          refine List.mem_cons_of_mem _ (List.mem_filter.mpr ⟨lvl_mem.mpr (Or.inl ⟨w, h1, h2⟩), ?_⟩)
          have h3 := av_cat (ρ := ρ) hn (F.2.1.2.2.1 w (List.mem_of_getElem? h1)).2
          rw [h2, h3]
          simp [Ne.symm hk, Ne.symm hk1]
    · rcases List.mem_cons.mp h1 with h1 | h1
      · cases h1
        obtain ⟨i, x⟩ := q
        cases h2
        exact List.mem_cons_self
      · obtain ⟨h3, h4⟩ := List.mem_filter.mp h1
        refine List.mem_cons_of_mem _ (List.mem_filter.mpr ⟨lvl_mem.mpr (Or.inr ⟨w, h3, h2⟩), ?_⟩)
        simp only [Bool.and_eq_true, Bool.not_eq_true', beq_eq_false_iff_ne, ne_eq] at h4
        simp [h4.1.1, h4.1.2, h4.2]
  · rcases List.mem_or_eq_of_mem_set hw with h1 | h1
    · rcases List.mem_or_eq_of_mem_set h1 with h1 | h1
      · exact F.2.1.2.2.1 w h1
      · cases h1
    · cases h1
  · rcases List.mem_cons.mp hq with h1 | h1
    · cases h1
      exact ⟨hv, hc⟩
    · exact F.2.1.2.2.2 q (List.mem_filter.mp h1).1

theorem g_iadd {x y : Int32} (C0 : Cx K M p l s m meth c) (hd : decode (mtC M) pc = .ok (.iadd, 1)) (k : Gd K M p l e R s m args below meth c Q S0 ρ0 (pc + 1, L, L2, aI (x + y) :: St, S)) : Gd K M p l e R s m args below meth c Q S0 ρ0 (pc, L, L2, aI y :: aI x :: St, S) := by
  intro ρ H locs ls F
  exact lv_iadd C0.1 C0.2.1 hd (k ρ H locs ls F.pop.pop.push)
theorem g_isub {x y : Int32} (C0 : Cx K M p l s m meth c) (hd : decode (mtC M) pc = .ok (.isub, 1)) (k : Gd K M p l e R s m args below meth c Q S0 ρ0 (pc + 1, L, L2, aI (x - y) :: St, S)) : Gd K M p l e R s m args below meth c Q S0 ρ0 (pc, L, L2, aI y :: aI x :: St, S) := by
  intro ρ H locs ls F
  exact lv_isub C0.1 C0.2.1 hd (k ρ H locs ls F.pop.pop.push)
theorem g_imul {x y : Int32} (C0 : Cx K M p l s m meth c) (hd : decode (mtC M) pc = .ok (.imul, 1)) (k : Gd K M p l e R s m args below meth c Q S0 ρ0 (pc + 1, L, L2, aI (x * y) :: St, S)) : Gd K M p l e R s m args below meth c Q S0 ρ0 (pc, L, L2, aI y :: aI x :: St, S) := by
  intro ρ H locs ls F
  exact lv_imul C0.1 C0.2.1 hd (k ρ H locs ls F.pop.pop.push)
theorem g_iand {x y : Int32} (C0 : Cx K M p l s m meth c) (hd : decode (mtC M) pc = .ok (.iand, 1)) (k : Gd K M p l e R s m args below meth c Q S0 ρ0 (pc + 1, L, L2, aI (x &&& y) :: St, S)) : Gd K M p l e R s m args below meth c Q S0 ρ0 (pc, L, L2, aI y :: aI x :: St, S) := by
  intro ρ H locs ls F
  exact lv_iand C0.1 C0.2.1 hd (k ρ H locs ls F.pop.pop.push)
theorem g_ior {x y : Int32} (C0 : Cx K M p l s m meth c) (hd : decode (mtC M) pc = .ok (.ior, 1)) (k : Gd K M p l e R s m args below meth c Q S0 ρ0 (pc + 1, L, L2, aI (x ||| y) :: St, S)) : Gd K M p l e R s m args below meth c Q S0 ρ0 (pc, L, L2, aI y :: aI x :: St, S) := by
  intro ρ H locs ls F
  exact lv_ior C0.1 C0.2.1 hd (k ρ H locs ls F.pop.pop.push)
theorem g_ixor {x y : Int32} (C0 : Cx K M p l s m meth c) (hd : decode (mtC M) pc = .ok (.ixor, 1)) (k : Gd K M p l e R s m args below meth c Q S0 ρ0 (pc + 1, L, L2, aI (x ^^^ y) :: St, S)) : Gd K M p l e R s m args below meth c Q S0 ρ0 (pc, L, L2, aI y :: aI x :: St, S) := by
  intro ρ H locs ls F
  exact lv_ixor C0.1 C0.2.1 hd (k ρ H locs ls F.pop.pop.push)
theorem g_ishl {x y : Int32} (C0 : Cx K M p l s m meth c) (hd : decode (mtC M) pc = .ok (.ishl, 1)) (k : Gd K M p l e R s m args below meth c Q S0 ρ0 (pc + 1, L, L2, aI (x <<< (y &&& 31)) :: St, S)) : Gd K M p l e R s m args below meth c Q S0 ρ0 (pc, L, L2, aI y :: aI x :: St, S) := by
  intro ρ H locs ls F
  exact lv_ishl C0.1 C0.2.1 hd (k ρ H locs ls F.pop.pop.push)
theorem g_ishr {x y : Int32} (C0 : Cx K M p l s m meth c) (hd : decode (mtC M) pc = .ok (.ishr, 1)) (k : Gd K M p l e R s m args below meth c Q S0 ρ0 (pc + 1, L, L2, aI (x >>> (y &&& 31)) :: St, S)) : Gd K M p l e R s m args below meth c Q S0 ρ0 (pc, L, L2, aI y :: aI x :: St, S) := by
  intro ρ H locs ls F
  exact lv_ishr C0.1 C0.2.1 hd (k ρ H locs ls F.pop.pop.push)
theorem g_idiv {x y : Int32} (C0 : Cx K M p l s m meth c) (hd : decode (mtC M) pc = .ok (.idiv, 1)) (h0 : ¬ y = 0) (k : Gd K M p l e R s m args below meth c Q S0 ρ0 (pc + 1, L, L2, aI (x / y) :: St, S)) : Gd K M p l e R s m args below meth c Q S0 ρ0 (pc, L, L2, aI y :: aI x :: St, S) := by
  intro ρ H locs ls F
  exact lv_idiv C0.1 C0.2.1 hd h0 (k ρ H locs ls F.pop.pop.push)
theorem g_irem {x y : Int32} (C0 : Cx K M p l s m meth c) (hd : decode (mtC M) pc = .ok (.irem, 1)) (h0 : ¬ y = 0) (k : Gd K M p l e R s m args below meth c Q S0 ρ0 (pc + 1, L, L2, aI (x - x / y * y) :: St, S)) : Gd K M p l e R s m args below meth c Q S0 ρ0 (pc, L, L2, aI y :: aI x :: St, S) := by
  intro ρ H locs ls F
  exact lv_irem C0.1 C0.2.1 hd h0 (k ρ H locs ls F.pop.pop.push)
theorem g_ladd {x y : Int64} (C0 : Cx K M p l s m meth c) (hd : decode (mtC M) pc = .ok (.ladd, 1)) (k : Gd K M p l e R s m args below meth c Q S0 ρ0 (pc + 1, L, L2, aL (x + y) :: St, S)) : Gd K M p l e R s m args below meth c Q S0 ρ0 (pc, L, L2, aL y :: aL x :: St, S) := by
  intro ρ H locs ls F
  exact lv_ladd C0.1 C0.2.1 hd (k ρ H locs ls F.pop.pop.push)
theorem g_lsub {x y : Int64} (C0 : Cx K M p l s m meth c) (hd : decode (mtC M) pc = .ok (.lsub, 1)) (k : Gd K M p l e R s m args below meth c Q S0 ρ0 (pc + 1, L, L2, aL (x - y) :: St, S)) : Gd K M p l e R s m args below meth c Q S0 ρ0 (pc, L, L2, aL y :: aL x :: St, S) := by
  intro ρ H locs ls F
  exact lv_lsub C0.1 C0.2.1 hd (k ρ H locs ls F.pop.pop.push)
theorem g_land {x y : Int64} (C0 : Cx K M p l s m meth c) (hd : decode (mtC M) pc = .ok (.land, 1)) (k : Gd K M p l e R s m args below meth c Q S0 ρ0 (pc + 1, L, L2, aL (x &&& y) :: St, S)) : Gd K M p l e R s m args below meth c Q S0 ρ0 (pc, L, L2, aL y :: aL x :: St, S) := by
  intro ρ H locs ls F
  exact lv_land C0.1 C0.2.1 hd (k ρ H locs ls F.pop.pop.push)
theorem g_lor {x y : Int64} (C0 : Cx K M p l s m meth c) (hd : decode (mtC M) pc = .ok (.lor, 1)) (k : Gd K M p l e R s m args below meth c Q S0 ρ0 (pc + 1, L, L2, aL (x ||| y) :: St, S)) : Gd K M p l e R s m args below meth c Q S0 ρ0 (pc, L, L2, aL y :: aL x :: St, S) := by
  intro ρ H locs ls F
  exact lv_lor C0.1 C0.2.1 hd (k ρ H locs ls F.pop.pop.push)
theorem g_lxor {x y : Int64} (C0 : Cx K M p l s m meth c) (hd : decode (mtC M) pc = .ok (.lxor, 1)) (k : Gd K M p l e R s m args below meth c Q S0 ρ0 (pc + 1, L, L2, aL (x ^^^ y) :: St, S)) : Gd K M p l e R s m args below meth c Q S0 ρ0 (pc, L, L2, aL y :: aL x :: St, S) := by
  intro ρ H locs ls F
  exact lv_lxor C0.1 C0.2.1 hd (k ρ H locs ls F.pop.pop.push)
theorem g_lshl {x : Int64} {y : Int32} (C0 : Cx K M p l s m meth c) (hd : decode (mtC M) pc = .ok (.lshl, 1)) (k : Gd K M p l e R s m args below meth c Q S0 ρ0 (pc + 1, L, L2, aL (x <<< (y.toInt64 &&& 63)) :: St, S)) : Gd K M p l e R s m args below meth c Q S0 ρ0 (pc, L, L2, aI y :: aL x :: St, S) := by
  intro ρ H locs ls F
  exact lv_lshl C0.1 C0.2.1 hd rfl (k ρ H locs ls F.pop.pop.push)
theorem g_lshr {x : Int64} {y : Int32} (C0 : Cx K M p l s m meth c) (hd : decode (mtC M) pc = .ok (.lshr, 1)) (k : Gd K M p l e R s m args below meth c Q S0 ρ0 (pc + 1, L, L2, aL (x >>> (y.toInt64 &&& 63)) :: St, S)) : Gd K M p l e R s m args below meth c Q S0 ρ0 (pc, L, L2, aI y :: aL x :: St, S) := by
  intro ρ H locs ls F
  exact lv_lshr C0.1 C0.2.1 hd rfl (k ρ H locs ls F.pop.pop.push)
theorem g_lushr {x : Int64} {y : Int32} (C0 : Cx K M p l s m meth c) (hd : decode (mtC M) pc = .ok (.lushr, 1)) (k : Gd K M p l e R s m args below meth c Q S0 ρ0 (pc + 1, L, L2, aL ((x.toUInt64 >>> (y.toInt64.toUInt64 &&& Int64.toUInt64 63)).toInt64) :: St, S)) : Gd K M p l e R s m args below meth c Q S0 ρ0 (pc, L, L2, aI y :: aL x :: St, S) := by
  intro ρ H locs ls F
  exact lv_lushr C0.1 C0.2.1 hd rfl (k ρ H locs ls F.pop.pop.push)
theorem g_ineg {x : Int32} (C0 : Cx K M p l s m meth c) (hd : decode (mtC M) pc = .ok (.ineg, 1)) (k : Gd K M p l e R s m args below meth c Q S0 ρ0 (pc + 1, L, L2, aI (-x) :: St, S)) : Gd K M p l e R s m args below meth c Q S0 ρ0 (pc, L, L2, aI x :: St, S) := by
  intro ρ H locs ls F
  exact lv_ineg C0.1 C0.2.1 hd (k ρ H locs ls F.pop.push)
theorem g_i2l {x : Int32} (C0 : Cx K M p l s m meth c) (hd : decode (mtC M) pc = .ok (.i2l, 1)) (k : Gd K M p l e R s m args below meth c Q S0 ρ0 (pc + 1, L, L2, aL (x.toInt64) :: St, S)) : Gd K M p l e R s m args below meth c Q S0 ρ0 (pc, L, L2, aI x :: St, S) := by
  intro ρ H locs ls F
  exact lv_i2l C0.1 C0.2.1 hd rfl (k ρ H locs ls F.pop.push)
theorem g_i2b {x : Int32} (C0 : Cx K M p l s m meth c) (hd : decode (mtC M) pc = .ok (.i2b, 1)) (k : Gd K M p l e R s m args below meth c Q S0 ρ0 (pc + 1, L, L2, aI (by8 x) :: St, S)) : Gd K M p l e R s m args below meth c Q S0 ρ0 (pc, L, L2, aI x :: St, S) := by
  intro ρ H locs ls F
  exact lv_i2b C0.1 C0.2.1 hd rfl (k ρ H locs ls F.pop.push)
theorem g_i2c {x : Int32} (C0 : Cx K M p l s m meth c) (hd : decode (mtC M) pc = .ok (.i2c, 1)) (k : Gd K M p l e R s m args below meth c Q S0 ρ0 (pc + 1, L, L2, aI ((x.toUInt32 % 65536).toInt32) :: St, S)) : Gd K M p l e R s m args below meth c Q S0 ρ0 (pc, L, L2, aI x :: St, S) := by
  intro ρ H locs ls F
  exact lv_i2c C0.1 C0.2.1 hd rfl (k ρ H locs ls F.pop.push)
theorem g_l2i {x : Int64} (C0 : Cx K M p l s m meth c) (hd : decode (mtC M) pc = .ok (.l2i, 1)) (k : Gd K M p l e R s m args below meth c Q S0 ρ0 (pc + 1, L, L2, aI (x.toInt32) :: St, S)) : Gd K M p l e R s m args below meth c Q S0 ρ0 (pc, L, L2, aL x :: St, S) := by
  intro ρ H locs ls F
  exact lv_l2i C0.1 C0.2.1 hd rfl (k ρ H locs ls F.pop.push)
theorem g_i2f {x : Int32} (C0 : Cx K M p l s m meth c) (hd : decode (mtC M) pc = .ok (.i2f, 1)) (k : Gd K M p l e R s m args below meth c Q S0 ρ0 (pc + 1, L, L2, aF (FP.i2f x) :: St, S)) : Gd K M p l e R s m args below meth c Q S0 ρ0 (pc, L, L2, aI x :: St, S) := by
  intro ρ H locs ls F
  exact lv_i2f C0.1 C0.2.1 hd (k ρ H locs ls F.pop.push)
theorem g_fdiv {x y : UInt32} (C0 : Cx K M p l s m meth c) (hd : decode (mtC M) pc = .ok (.fdiv, 1)) (h0 : FP.fdiv x y &&& 0x7fffffff ≤ 0x7f800000) (k : Gd K M p l e R s m args below meth c Q S0 ρ0 (pc + 1, L, L2, aF (FP.fdiv x y) :: St, S)) : Gd K M p l e R s m args below meth c Q S0 ρ0 (pc, L, L2, aF y :: aF x :: St, S) := by
  intro ρ H locs ls F
  exact lv_fdiv C0.1 C0.2.1 hd h0 (k ρ H locs ls F.pop.pop.push)
theorem g_f2d {x : UInt32} (C0 : Cx K M p l s m meth c) (hd : decode (mtC M) pc = .ok (.f2d, 1)) (h0 : FP.f2d x &&& 0x7fffffffffffffff ≤ 0x7ff0000000000000) (k : Gd K M p l e R s m args below meth c Q S0 ρ0 (pc + 1, L, L2, aD (FP.f2d x) :: St, S)) : Gd K M p l e R s m args below meth c Q S0 ρ0 (pc, L, L2, aF x :: St, S) := by
  intro ρ H locs ls F
  exact lv_f2d C0.1 C0.2.1 hd h0 (k ρ H locs ls F.pop.push)
theorem g_dcmp {x y : UInt64} {op : CmpOp} (C0 : Cx K M p l s m meth c) (hd : decode (mtC M) pc = .ok (.dcmp op, 1)) (k : Gd K M p l e R s m args below meth c Q S0 ρ0 (pc + 1, L, L2, aI (Op.cmpValue (FP.dcmp x y) op) :: St, S)) : Gd K M p l e R s m args below meth c Q S0 ρ0 (pc, L, L2, aD y :: aD x :: St, S) := by
  intro ρ H locs ls F
  exact lv_dcmp C0.1 C0.2.1 hd (k ρ H locs ls F.pop.pop.push)
theorem g_fcmp {x y : UInt32} {op : CmpOp} (C0 : Cx K M p l s m meth c) (hd : decode (mtC M) pc = .ok (.fcmp op, 1)) (k : Gd K M p l e R s m args below meth c Q S0 ρ0 (pc + 1, L, L2, aI (Op.cmpValue (FP.fcmp x y) op) :: St, S)) : Gd K M p l e R s m args below meth c Q S0 ρ0 (pc, L, L2, aF y :: aF x :: St, S) := by
  intro ρ H locs ls F
  exact lv_fcmp C0.1 C0.2.1 hd (k ρ H locs ls F.pop.pop.push)
theorem g_lcmp {x y : Int64} (C0 : Cx K M p l s m meth c) (hd : decode (mtC M) pc = .ok (.lcmp, 1)) (k : Gd K M p l e R s m args below meth c Q S0 ρ0 (pc + 1, L, L2, aI (if x < y then -1 else if x = y then 0 else 1) :: St, S)) : Gd K M p l e R s m args below meth c Q S0 ρ0 (pc, L, L2, aL y :: aL x :: St, S) := by
  intro ρ H locs ls F
  have h := k ρ H locs ls F.pop.pop.push
  rw [← lcmp_eq] at h
  exact W.lcmp C0.1 C0.2.1 hd h
theorem g_iconst {v : Int} (C0 : Cx K M p l s m meth c) (hd : decode (mtC M) pc = .ok (.iconst v, 1)) (k : Gd K M p l e R s m args below meth c Q S0 ρ0 (pc + 1, L, L2, aI (Int32.ofInt v) :: St, S)) : Gd K M p l e R s m args below meth c Q S0 ρ0 (pc, L, L2, St, S) := by
  intro ρ H locs ls F
  exact lv_iconst C0.1 C0.2.1 hd rfl (k ρ H locs ls F.push)
theorem g_bipush {v : Int} (C0 : Cx K M p l s m meth c) (hd : decode (mtC M) pc = .ok (.bipush v, 2)) (k : Gd K M p l e R s m args below meth c Q S0 ρ0 (pc + 2, L, L2, aI (Int8.ofInt v).toInt32 :: St, S)) : Gd K M p l e R s m args below meth c Q S0 ρ0 (pc, L, L2, St, S) := by
  intro ρ H locs ls F
  exact lv_bipush C0.1 C0.2.1 hd rfl (k ρ H locs ls F.push)
theorem g_sipush {v : Int} (C0 : Cx K M p l s m meth c) (hd : decode (mtC M) pc = .ok (.sipush v, 3)) (k : Gd K M p l e R s m args below meth c Q S0 ρ0 (pc + 3, L, L2, aI (Int16.ofInt v).toInt32 :: St, S)) : Gd K M p l e R s m args below meth c Q S0 ρ0 (pc, L, L2, St, S) := by
  intro ρ H locs ls F
  exact lv_sipush C0.1 C0.2.1 hd rfl (k ρ H locs ls F.push)
theorem g_lconst {v : Fin 2} (C0 : Cx K M p l s m meth c) (hd : decode (mtC M) pc = .ok (.lconst v, 1)) (k : Gd K M p l e R s m args below meth c Q S0 ρ0 (pc + 1, L, L2, aL (Int64.ofNat v) :: St, S)) : Gd K M p l e R s m args below meth c Q S0 ρ0 (pc, L, L2, St, S) := by
  intro ρ H locs ls F
  exact lv_lconst C0.1 C0.2.1 hd rfl (k ρ H locs ls F.push)
theorem g_null (C0 : Cx K M p l s m meth c) (hd : decode (mtC M) pc = .ok (.aconst_null, 1)) (k : Gd K M p l e R s m args below meth c Q S0 ρ0 (pc + 1, L, L2, aN :: St, S)) : Gd K M p l e R s m args below meth c Q S0 ρ0 (pc, L, L2, St, S) := by
  intro ρ H locs ls F
  exact lv_null C0.1 C0.2.1 hd (k ρ H locs ls F.push)
theorem g_iload {i : Nat} {x : Int32} (C0 : Cx K M p l s m meth c) (hd : decode (mtC M) pc = .ok (.iload i, 2)) (hl : L[(i : Nat)]? = some (some (aI x))) (k : Gd K M p l e R s m args below meth c Q S0 ρ0 (pc + 2, L, L2, aI x :: St, S)) : Gd K M p l e R s m args below meth c Q S0 ρ0 (pc, L, L2, St, S) := by
  intro ρ H locs ls F
  exact lv_iload C0.1 C0.2.1 hd (F.at1 hl).1 (k ρ H locs ls F.push)
theorem g_iload_n {i : Fin 4} {x : Int32} (C0 : Cx K M p l s m meth c) (hd : decode (mtC M) pc = .ok (.iload_n i, 1)) (hl : L[(i : Nat)]? = some (some (aI x))) (k : Gd K M p l e R s m args below meth c Q S0 ρ0 (pc + 1, L, L2, aI x :: St, S)) : Gd K M p l e R s m args below meth c Q S0 ρ0 (pc, L, L2, St, S) := by
  intro ρ H locs ls F
  exact lv_iload_n C0.1 C0.2.1 hd rfl (F.at1 hl).1 (k ρ H locs ls F.push)
theorem g_fload {i : Nat} {x : UInt32} (C0 : Cx K M p l s m meth c) (hd : decode (mtC M) pc = .ok (.fload i, 2)) (hl : L[(i : Nat)]? = some (some (aF x))) (k : Gd K M p l e R s m args below meth c Q S0 ρ0 (pc + 2, L, L2, aF x :: St, S)) : Gd K M p l e R s m args below meth c Q S0 ρ0 (pc, L, L2, St, S) := by
  intro ρ H locs ls F
  exact lv_fload C0.1 C0.2.1 hd (F.at1 hl).1 (k ρ H locs ls F.push)
theorem g_lload {i : Nat} {x : Int64} (C0 : Cx K M p l s m meth c) (hd : decode (mtC M) pc = .ok (.lload i, 2)) (hl : L2.lookup (i : Nat) = some (aL x)) (k : Gd K M p l e R s m args below meth c Q S0 ρ0 (pc + 2, L, L2, aL x :: St, S)) : Gd K M p l e R s m args below meth c Q S0 ρ0 (pc, L, L2, St, S) := by
  intro ρ H locs ls F
  exact lv_lload C0.1 C0.2.1 hd (F.at2 hl) (k ρ H locs ls F.push)
theorem g_lload_n {i : Fin 4} {x : Int64} (C0 : Cx K M p l s m meth c) (hd : decode (mtC M) pc = .ok (.lload_n i, 1)) (hl : L2.lookup (i : Nat) = some (aL x)) (k : Gd K M p l e R s m args below meth c Q S0 ρ0 (pc + 1, L, L2, aL x :: St, S)) : Gd K M p l e R s m args below meth c Q S0 ρ0 (pc, L, L2, St, S) := by
  intro ρ H locs ls F
  exact lv_lload_n C0.1 C0.2.1 hd rfl (F.at2 hl) (k ρ H locs ls F.push)
theorem g_aload {i : Nat} {o : OId} (C0 : Cx K M p l s m meth c) (hd : decode (mtC M) pc = .ok (.aload i, 2)) (hl : L[(i : Nat)]? = some (some (aR o))) (k : Gd K M p l e R s m args below meth c Q S0 ρ0 (pc + 2, L, L2, aR o :: St, S)) : Gd K M p l e R s m args below meth c Q S0 ρ0 (pc, L, L2, St, S) := by
  intro ρ H locs ls F
  have h1 := F.at1 hl
  have h2 := k ρ H locs ls (F.stk (ok_c h1.2 F.2.2))
  have h3 : av K ρ (aR o) = .null ∨ ∃ a, av K ρ (aR o) = .ref a := by
    unfold av
    by_cases h48 : o.1 = 48
    · simp only [if_pos h48]; exact C0.hn
    · simp only [if_neg h48]; exact Or.inr ⟨_, rfl⟩
  rcases h3 with e3 | ⟨a, e3⟩
  · exact lv_aloadN C0.1 C0.2.1 hd (by rw [← e3]; exact h1.1) (by rw [← e3]; exact h2)
  · exact lv_aload C0.1 C0.2.1 hd (by rw [← e3]; exact h1.1) (by rw [← e3]; exact h2)
theorem g_aloadN {i : Nat} (C0 : Cx K M p l s m meth c) (hd : decode (mtC M) pc = .ok (.aload i, 2)) (hl : L[(i : Nat)]? = some (some aN)) (k : Gd K M p l e R s m args below meth c Q S0 ρ0 (pc + 2, L, L2, aN :: St, S)) : Gd K M p l e R s m args below meth c Q S0 ρ0 (pc, L, L2, St, S) := by
  intro ρ H locs ls F
  exact lv_aloadN C0.1 C0.2.1 hd (F.at1 hl).1 (k ρ H locs ls F.push)
theorem g_aload_n {i : Fin 4} {o : OId} (C0 : Cx K M p l s m meth c) (hd : decode (mtC M) pc = .ok (.aload_n i, 1)) (hl : L[(i : Nat)]? = some (some (aR o))) (k : Gd K M p l e R s m args below meth c Q S0 ρ0 (pc + 1, L, L2, aR o :: St, S)) : Gd K M p l e R s m args below meth c Q S0 ρ0 (pc, L, L2, St, S) := by
  intro ρ H locs ls F
  have h1 := F.at1 hl
  have h2 := k ρ H locs ls (F.stk (ok_c h1.2 F.2.2))
  have h3 : av K ρ (aR o) = .null ∨ ∃ a, av K ρ (aR o) = .ref a := by
    unfold av
    by_cases h48 : o.1 = 48
    · simp only [if_pos h48]; exact C0.hn
    · simp only [if_neg h48]; exact Or.inr ⟨_, rfl⟩
  rcases h3 with e3 | ⟨a, e3⟩
  · exact lv_aload_nN C0.1 C0.2.1 hd rfl (by rw [← e3]; exact h1.1) (by rw [← e3]; exact h2)
  · exact lv_aload_n C0.1 C0.2.1 hd rfl (by rw [← e3]; exact h1.1) (by rw [← e3]; exact h2)
theorem g_aload_nN {i : Fin 4} (C0 : Cx K M p l s m meth c) (hd : decode (mtC M) pc = .ok (.aload_n i, 1)) (hl : L[(i : Nat)]? = some (some aN)) (k : Gd K M p l e R s m args below meth c Q S0 ρ0 (pc + 1, L, L2, aN :: St, S)) : Gd K M p l e R s m args below meth c Q S0 ρ0 (pc, L, L2, St, S) := by
  intro ρ H locs ls F
  exact lv_aload_nN C0.1 C0.2.1 hd rfl (F.at1 hl).1 (k ρ H locs ls F.push)
theorem g_istore {i : Nat} {x : Int32} (C0 : Cx K M p l s m meth c) (hd : decode (mtC M) pc = .ok (.istore i, 2)) (hi : (i : Nat) < L.length) (k : Gd K M p l e R s m args below meth c Q S0 ρ0 (pc + 2, L.set i (some (aI x)), kil L2 i, St, S)) : Gd K M p l e R s m args below meth c Q S0 ρ0 (pc, L, L2, aI x :: St, S) := by
  intro ρ H locs ls F
  exact lv_istore C0.1 C0.2.1 hd F.2.1.1 (by rw [← F.2.1.2.1]; exact hi) rfl (fun ls' h' => k ρ H locs ls' (F.pop.st1 C0.hn okA_inl rfl h'))
theorem g_istore_n {i : Fin 4} {x : Int32} (C0 : Cx K M p l s m meth c) (hd : decode (mtC M) pc = .ok (.istore_n i, 1)) (hi : (i : Nat) < L.length) (k : Gd K M p l e R s m args below meth c Q S0 ρ0 (pc + 1, L.set i (some (aI x)), kil L2 i, St, S)) : Gd K M p l e R s m args below meth c Q S0 ρ0 (pc, L, L2, aI x :: St, S) := by
  intro ρ H locs ls F
  exact lv_istore_n C0.1 C0.2.1 hd rfl F.2.1.1 (by rw [← F.2.1.2.1]; exact hi) rfl (fun ls' h' => k ρ H locs ls' (F.pop.st1 C0.hn okA_inl rfl h'))
theorem g_fstore {i : Nat} {x : UInt32} (C0 : Cx K M p l s m meth c) (hd : decode (mtC M) pc = .ok (.fstore i, 2)) (hi : (i : Nat) < L.length) (k : Gd K M p l e R s m args below meth c Q S0 ρ0 (pc + 2, L.set i (some (aF x)), kil L2 i, St, S)) : Gd K M p l e R s m args below meth c Q S0 ρ0 (pc, L, L2, aF x :: St, S) := by
  intro ρ H locs ls F
  exact lv_fstore C0.1 C0.2.1 hd F.2.1.1 (by rw [← F.2.1.2.1]; exact hi) rfl (fun ls' h' => k ρ H locs ls' (F.pop.st1 C0.hn okA_inl rfl h'))
theorem g_lstore {i : Nat} {x : Int64} (C0 : Cx K M p l s m meth c) (hd : decode (mtC M) pc = .ok (.lstore i, 2)) (hi : (i : Nat) + 1 < L.length) (k : Gd K M p l e R s m args below meth c Q S0 ρ0 (pc + 2, (L.set i none).set (i + 1) none, (i, aL x) :: kil2 L2 i, St, S)) : Gd K M p l e R s m args below meth c Q S0 ρ0 (pc, L, L2, aL x :: St, S) := by
  intro ρ H locs ls F
  exact lv_lstore C0.1 C0.2.1 hd F.2.1.1 (by rw [← F.2.1.2.1]; exact hi) rfl (fun ls' h' => k ρ H locs ls' (F.pop.st2 C0.hn okA_inl rfl h'))
theorem g_lstore_n {i : Fin 4} {x : Int64} (C0 : Cx K M p l s m meth c) (hd : decode (mtC M) pc = .ok (.lstore_n i, 1)) (hi : (i : Nat) + 1 < L.length) (k : Gd K M p l e R s m args below meth c Q S0 ρ0 (pc + 1, (L.set i none).set (i + 1) none, (i, aL x) :: kil2 L2 i, St, S)) : Gd K M p l e R s m args below meth c Q S0 ρ0 (pc, L, L2, aL x :: St, S) := by
  intro ρ H locs ls F
  exact lv_lstore_n C0.1 C0.2.1 hd rfl F.2.1.1 (by rw [← F.2.1.2.1]; exact hi) rfl (fun ls' h' => k ρ H locs ls' (F.pop.st2 C0.hn okA_inl rfl h'))
theorem g_astore {i : Nat} {v : AV} (C0 : Cx K M p l s m meth c) (hd : decode (mtC M) pc = .ok (.astore i, 2)) (hi : (i : Nat) < L.length) (hv : isA v = true) (k : Gd K M p l e R s m args below meth c Q S0 ρ0 (pc + 2, L.set i (some v), kil L2 i, St, S)) : Gd K M p l e R s m args below meth c Q S0 ρ0 (pc, L, L2, v :: St, S) := by
  intro ρ H locs ls F
  have hc : cat2 v = false := by
    cases v with
    | inr o => rfl
    | inl x => cases x <;> first | rfl | cases hv
  have h3 : av K ρ v = .null ∨ ∃ a, av K ρ v = .ref a := by
    cases v with
    | inl x => cases x <;> first | exact Or.inl rfl | cases hv
    | inr o =>
      unfold av
      by_cases h48 : o.1 = 48
      · simp only [if_pos h48]; exact C0.hn
      · simp only [if_neg h48]; exact Or.inr ⟨_, rfl⟩
  have fin : ∀ ls' : Array Slot, lv_has ls' (mtL M) (((i : Nat), av K ρ v) :: (lvl K ρ L L2).filter (fun q => !(q.1 == (i : Nat)) && !(q.1 + 1 == (i : Nat) && q.2.category == 2))) → _ := fun ls' h' => k ρ H locs ls' (F.pop.st1 C0.hn F.t1.1 hc h')
  show W p l e R s m args below meth c H locs _ _ Q (F0 m pc ls (av K ρ v :: St.map (av K ρ)))
  rcases h3 with e3 | ⟨a, e3⟩
  · rw [e3] at fin ⊢
    exact lv_astoreN C0.1 C0.2.1 hd F.2.1.1 (by rw [← F.2.1.2.1]; exact hi) rfl fin
  · rw [e3] at fin ⊢
    exact lv_astore C0.1 C0.2.1 hd F.2.1.1 (by rw [← F.2.1.2.1]; exact hi) rfl fin
theorem g_astore_n {i : Fin 4} {v : AV} (C0 : Cx K M p l s m meth c) (hd : decode (mtC M) pc = .ok (.astore_n i, 1)) (hi : (i : Nat) < L.length) (hv : isA v = true) (k : Gd K M p l e R s m args below meth c Q S0 ρ0 (pc + 1, L.set i (some v), kil L2 i, St, S)) : Gd K M p l e R s m args below meth c Q S0 ρ0 (pc, L, L2, v :: St, S) := by
  intro ρ H locs ls F
  have hc : cat2 v = false := by
    cases v with
    | inr o => rfl
    | inl x => cases x <;> first | rfl | cases hv
  have h3 : av K ρ v = .null ∨ ∃ a, av K ρ v = .ref a := by
    cases v with
    | inl x => cases x <;> first | exact Or.inl rfl | cases hv
    | inr o =>
      unfold av
      by_cases h48 : o.1 = 48
      · simp only [if_pos h48]; exact C0.hn
      · simp only [if_neg h48]; exact Or.inr ⟨_, rfl⟩
  have fin : ∀ ls' : Array Slot, lv_has ls' (mtL M) (((i : Nat), av K ρ v) :: (lvl K ρ L L2).filter (fun q => !(q.1 == (i : Nat)) && !(q.1 + 1 == (i : Nat) && q.2.category == 2))) → _ := fun ls' h' => k ρ H locs ls' (F.pop.st1 C0.hn F.t1.1 hc h')
  show W p l e R s m args below meth c H locs _ _ Q (F0 m pc ls (av K ρ v :: St.map (av K ρ)))
  rcases h3 with e3 | ⟨a, e3⟩
  · rw [e3] at fin ⊢
    exact lv_astore_nN C0.1 C0.2.1 hd rfl F.2.1.1 (by rw [← F.2.1.2.1]; exact hi) rfl fin
  · rw [e3] at fin ⊢
    exact lv_astore_n C0.1 C0.2.1 hd rfl F.2.1.1 (by rw [← F.2.1.2.1]; exact hi) rfl fin
theorem g_iinc {i : Nat} {v : Int} {x : Int32} (C0 : Cx K M p l s m meth c) (hd : decode (mtC M) pc = .ok (.iinc i v, 3)) (hl : L[i]? = some (some (aI x))) (hi : i < L.length) (k : Gd K M p l e R s m args below meth c Q S0 ρ0 (pc + 3, L.set i (some (aI (x + Int32.ofInt v))), kil L2 i, St, S)) : Gd K M p l e R s m args below meth c Q S0 ρ0 (pc, L, L2, St, S) := by
  intro ρ H locs ls F
  have hm : (i, Value.int x) ∈ lvl K ρ L L2 := lvl_mem.mpr (Or.inl ⟨aI x, hl, rfl⟩)
  obtain ⟨j, hj⟩ := List.getElem?_of_mem hm
  exact lv_iinc C0.1 C0.2.1 hd F.2.1.1 hj rfl (by rw [← F.2.1.2.1]; exact hi) rfl (fun ls' h' => k ρ H locs ls' (F.st1 C0.hn okA_inl rfl h'))
theorem g_dup {v : AV} (C0 : Cx K M p l s m meth c) (hd : decode (mtC M) pc = .ok (.dup, 1)) (hv : cat2 v = false) (k : Gd K M p l e R s m args below meth c Q S0 ρ0 (pc + 1, L, L2, v :: v :: St, S)) : Gd K M p l e R s m args below meth c Q S0 ρ0 (pc, L, L2, v :: St, S) := by
  intro ρ H locs ls F
  exact lv_dup C0.1 C0.2.1 hd (av_cat C0.hn hv) (k ρ H locs ls (F.stk (ok_c F.t1.1 F.2.2)))
theorem g_pop {v : AV} (C0 : Cx K M p l s m meth c) (hd : decode (mtC M) pc = .ok (.pop, 1)) (hv : cat2 v = false) (k : Gd K M p l e R s m args below meth c Q S0 ρ0 (pc + 1, L, L2, St, S)) : Gd K M p l e R s m args below meth c Q S0 ρ0 (pc, L, L2, v :: St, S) := by
  intro ρ H locs ls F
  exact lv_pop C0.1 C0.2.1 hd (av_cat C0.hn hv) (k ρ H locs ls F.pop)
theorem g_dup_x1 {v w : AV} (C0 : Cx K M p l s m meth c) (hd : decode (mtC M) pc = .ok (.dup_x1, 1)) (hv : cat2 v = false) (hw : cat2 w = false) (k : Gd K M p l e R s m args below meth c Q S0 ρ0 (pc + 1, L, L2, v :: w :: v :: St, S)) : Gd K M p l e R s m args below meth c Q S0 ρ0 (pc, L, L2, v :: w :: St, S) := by
  intro ρ H locs ls F
  exact lv_dup_x1 C0.1 C0.2.1 hd (av_cat C0.hn hv) (av_cat C0.hn hw) (k ρ H locs ls (F.stk (ok_c F.t1.1 (ok_c F.pop.t1.1 (ok_c F.t1.1 F.pop.pop.2.2)))))
theorem g_dup2 {v w : AV} (C0 : Cx K M p l s m meth c) (hd : decode (mtC M) pc = .ok (.dup2, 1)) (hv : cat2 v = false) (hw : cat2 w = false) (k : Gd K M p l e R s m args below meth c Q S0 ρ0 (pc + 1, L, L2, v :: w :: v :: w :: St, S)) : Gd K M p l e R s m args below meth c Q S0 ρ0 (pc, L, L2, v :: w :: St, S) := by
  intro ρ H locs ls F
  exact lv_dup2_11 C0.1 C0.2.1 hd (av_cat C0.hn hv) (av_cat C0.hn hw) (k ρ H locs ls (F.stk (ok_c F.t1.1 (ok_c F.pop.t1.1 F.2.2))))
theorem g_goto {off : Int} {t : Nat} (C0 : Cx K M p l s m meth c) (hd : decode (mtC M) pc = .ok (.goto off, 3)) (ht : (pc : Int) + off = (t : Int)) (k : Gd K M p l e R s m args below meth c Q S0 ρ0 (t, L, L2, St, S)) : Gd K M p l e R s m args below meth c Q S0 ρ0 (pc, L, L2, St, S) := by
  intro ρ H locs ls F
  exact lv_goto C0.1 C0.2.1 hd ht (k ρ H locs ls F)
end STEP
