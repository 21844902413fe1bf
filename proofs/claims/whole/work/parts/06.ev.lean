/-! the small machine's runs: 'ev' says what a method's run from a point on gives, without fuel; 'evm' a whole call, with so many calls below it -/
noncomputable def stepE (c : Nat → List AV → SS → Option Out) (M : Nat) (g : Cfg) : Option (Cfg ⊕ Out) := stepI c (mtH M) (mtR M) g.1 (insAt M g.1) g.2.1 g.2.2.1 g.2.2.2.1 g.2.2.2.2
noncomputable def run (c : Nat → List AV → SS → Option Out) (M : Nat) : Nat → Cfg → Option Out
  | 0, _ => none
  | n + 1, g => match stepE c M g with
    | none => none
    | some (.inr o) => some o
    | some (.inl g') => run c M n g'
section EV
variable {c : Nat → List AV → SS → Option Out} {M : Nat}
theorem run_s {n : Nat} {g : Cfg} : run c M (n + 1) g = match stepE c M g with
    | none => none
    | some (.inr o) => some o
    | some (.inl g') => run c M n g' := rfl
theorem run_up : ∀ (n : Nat) (g : Cfg) (o : Out), run c M n g = some o → run c M (n + 1) g = some o
  | 0, _, _, h => by cases h
  | n + 1, g, o, h => by
    rw [run_s] at h ⊢
    cases hs : stepE c M g with
    | none => rw [hs] at h; cases h
    | some x =>
      rw [hs] at h
      cases x with
      | inr o' => exact h
      | inl g' => exact run_up n g' o h
theorem run_le {n : Nat} {g : Cfg} {o : Out} (h : run c M n g = some o) : ∀ k, run c M (n + k) g = some o
  | 0 => h
  | k + 1 => run_up _ _ _ (run_le h k)
theorem run_one {n m : Nat} {g : Cfg} {o o' : Out} (h : run c M n g = some o) (h' : run c M m g = some o') : o = o' := by
  have h1 := run_le h m
  have h2 := run_le h' n
  rw [Nat.add_comm m n] at h2
  exact Option.some.inj (h1.symm.trans h2)
noncomputable def evG (c : Nat → List AV → SS → Option Out) (M : Nat) (g : Cfg) : Option Out := @dite _ (∃ o n, run c M n g = some o) (Classical.propDecidable _) (fun h => some h.choose) (fun _ => none)
noncomputable def ev (c : Nat → List AV → SS → Option Out) (M pc : Nat) (L : List (Option AV)) (L2 : List (Nat × AV)) (St : List AV) (S : SS) : Option Out := evG c M (pc, L, L2, St, S)
theorem evG_of {n : Nat} {g : Cfg} {o : Out} (h : run c M n g = some o) : evG c M g = some o := by
  have hx : ∃ o n, run c M n g = some o := ⟨o, n, h⟩
  unfold evG
  rw [dif_pos hx]
  obtain ⟨m, hm⟩ := hx.choose_spec
  exact congrArg some (run_one hm h)
theorem run_of_ev {g : Cfg} {o : Out} (h : evG c M g = some o) : ∃ n, run c M n g = some o := by
  unfold evG at h
  by_cases hx : ∃ o n, run c M n g = some o
  · rw [dif_pos hx] at h
    obtain ⟨m, hm⟩ := hx.choose_spec
    exact ⟨m, by rw [hm]; exact h⟩
  · rw [dif_neg hx] at h
    cases h
theorem evG_eq (g : Cfg) : evG c M g = match stepE c M g with
    | none => none
    | some (.inr o) => some o
    | some (.inl g') => evG c M g' := by
  cases hs : stepE c M g with
  | none =>
    cases hv : evG c M g with
    | none => rfl
    | some o =>
      obtain ⟨n, hn⟩ := run_of_ev hv
      cases n with
      | zero => cases hn
      | succ n => rw [run_s, hs] at hn; cases hn
  | some x =>
    cases x with
    | inr o => exact evG_of (n := 1) (by rw [run_s, hs])
    | inl g' =>
      show evG c M g = evG c M g'
      cases hv : evG c M g' with
      | some o =>
        obtain ⟨n, hn⟩ := run_of_ev hv
        exact evG_of (n := n + 1) (by rw [run_s, hs]; exact hn)
      | none =>
        cases hw : evG c M g with
        | none => rfl
        | some o =>
          obtain ⟨n, hn⟩ := run_of_ev hw
          cases n with
          | zero => cases hn
          | succ n =>
            rw [run_s, hs] at hn
            rw [evG_of hn] at hv
            cases hv
theorem ev_go {pc : Nat} {L : List (Option AV)} {L2 : List (Nat × AV)} {St : List AV} {S : SS} {pc' : Nat} {L' : List (Option AV)} {L2' : List (Nat × AV)} {St' : List AV} {S' : SS} {q : IE} (h : insAt M pc = some q) (hs : stepI c (mtH M) (mtR M) pc (some q) L L2 St S = some (.inl (pc', L', L2', St', S'))) : ev c M pc L L2 St S = ev c M pc' L' L2' St' S' := by
  unfold ev
  rw [evG_eq, show stepE c M (pc, L, L2, St, S) = some (.inl (pc', L', L2', St', S')) from (by show stepI c (mtH M) (mtR M) pc (insAt M pc) L L2 St S = _; rw [h]; exact hs)]
theorem ev_end {pc : Nat} {L : List (Option AV)} {L2 : List (Nat × AV)} {St : List AV} {S : SS} {o : Out} {q : IE} (h : insAt M pc = some q) (hs : stepI c (mtH M) (mtR M) pc (some q) L L2 St S = some (.inr o)) : ev c M pc L L2 St S = some o := by
  unfold ev
  rw [evG_eq, show stepE c M (pc, L, L2, St, S) = some (.inr o) from (by show stepI c (mtH M) (mtR M) pc (insAt M pc) L L2 St S = _; rw [h]; exact hs)]
theorem ev_no {pc : Nat} {L : List (Option AV)} {L2 : List (Nat × AV)} {St : List AV} {S : SS} {q : IE} (h : insAt M pc = some q) (hs : stepI c (mtH M) (mtR M) pc (some q) L L2 St S = none) : ev c M pc L L2 St S = none := by
  unfold ev
  rw [evG_eq, show stepE c M (pc, L, L2, St, S) = none from (by show stepI c (mtH M) (mtR M) pc (insAt M pc) L L2 St S = _; rw [h]; exact hs)]
/-- a test with two ways -/
theorem ev_br {p : Prop} [Decidable p] {pc : Nat} {L : List (Option AV)} {L2 : List (Nat × AV)} {St : List AV} {S : SS} {a b : Nat} {L' : List (Option AV)} {L2' : List (Nat × AV)} {St' : List AV} {S' : SS} {q : IE} (h : insAt M pc = some q) (hs : stepI c (mtH M) (mtR M) pc (some q) L L2 St S = some (.inl ((if decide p = true then a else b), L', L2', St', S'))) : ev c M pc L L2 St S = if p then ev c M a L' L2' St' S' else ev c M b L' L2' St' S' := by
  rw [ev_go h hs]
  by_cases hp : p
  · rw [if_pos hp, if_pos (decide_eq_true hp)]
  · rw [if_neg hp, if_neg (by rw [decide_eq_false hp]; exact Bool.false_ne_true)]
/-- where a condition must hold -/
theorem ev_if {p : Prop} [Decidable p] {pc : Nat} {L : List (Option AV)} {L2 : List (Nat × AV)} {St : List AV} {S : SS} {pc' : Nat} {L' : List (Option AV)} {L2' : List (Nat × AV)} {St' : List AV} {S' : SS} {q : IE} (h : insAt M pc = some q) (hs : stepI c (mtH M) (mtR M) pc (some q) L L2 St S = if p then some (.inl (pc', L', L2', St', S')) else none) : ev c M pc L L2 St S = if p then ev c M pc' L' L2' St' S' else none := by
  by_cases hp : p
  · rw [if_pos hp] at hs ⊢
    exact ev_go h hs
  · rw [if_neg hp] at hs ⊢
    exact ev_no h hs
/-- a call's answer, and how it goes on -/
def ck (r : Option Out) (k : Option AV → SS → Option Out) : Option Out := match r with
  | none => none
  | some (.inl v, S) => k v S
  | some (.inr E, S) => some (.inr E, S)
theorem ck_v (v : Option AV) (S : SS) (k : Option AV → SS → Option Out) : ck (some (.inl v, S)) k = k v S := rfl
theorem ck_x (E : String) (S : SS) (k : Option AV → SS → Option Out) : ck (some (.inr E, S)) k = some (.inr E, S) := rfl
theorem ev_call {pc : Nat} {L : List (Option AV)} {L2 : List (Nat × AV)} {St : List AV} {S : SS} {r : Option Out} {rest : List AV} {q : IE} (h : insAt M pc = some q) (hs : stepI c (mtH M) (mtR M) pc (some q) L L2 St S = aft [] pc L L2 rest r) : ev c M pc L L2 St S = ck r (fun v S' => ev c M (pc + 3) L L2 (v.toList ++ rest) S') := by
  cases r with
  | none => exact ev_no h hs
  | some o =>
    obtain ⟨v | E, S'⟩ := o
    · exact ev_go h hs
    · exact ev_end h hs
/-- a call in a method with handlers -/
def ckH (hs : List HE) (pc : Nat) (r : Option Out) (k : Option AV → SS → Option Out) (kx : Nat → Nat → SS → Option Out) : Option Out := match r with
  | none => none
  | some (.inl v, S) => k v S
  | some (.inr E, S) => match hnd hs pc E with
    | some (a, b) => kx a b S
    | none => none
theorem ev_callH {pc : Nat} {L : List (Option AV)} {St : List AV} {S : SS} {r : Option Out} {rest : List AV} {q : IE} {e : HE} {es : List HE} (he : mtH M = e :: es) (hL : ∀ E a b, hnd (e :: es) pc E = some (a, b) → b < L.length) (h : insAt M pc = some q) (hs : stepI c (mtH M) (mtR M) pc (some q) L [] St S = aft (mtH M) pc L [] rest r) : ev c M pc L [] St S = ckH (e :: es) pc r (fun v S' => ev c M (pc + 3) L [] (v.toList ++ rest) S') (fun a b S' => ev c M a (L.set b none) [] [] S') := by
  cases r with
  | none => exact ev_no h hs
  | some o =>
    obtain ⟨v | E, S'⟩ := o
    · exact ev_go h hs
    · show _ = match hnd (e :: es) pc E with
        | some (a, b) => ev c M a (L.set b none) [] [] S'
        | none => none
      have hs' : stepI c (mtH M) (mtR M) pc (some q) L [] St S = match hnd (e :: es) pc E with
          | some (a, b) => if b < L.length then nx a (L.set b none) (kil [] b) [] S' else none
          | none => if (e :: es) = [] then some (.inr (.inr E, S')) else none := by rw [hs, he]; rfl
      cases hh : hnd (e :: es) pc E with
      | none =>
        rw [hh] at hs'
        exact ev_no h (hs'.trans (if_neg (by intro z; cases z)))
      | some x =>
        obtain ⟨a, b⟩ := x
        rw [hh] at hs'
        exact ev_go h (hs'.trans (if_pos (hL E a b hh)))
end EV
def locL : List AV → List (Option AV)
  | [] => []
  | a :: r => if cat2 a = true then none :: none :: locL r else some a :: locL r
def locL2 : Nat → List AV → List (Nat × AV)
  | _, [] => []
  | i, a :: r => if cat2 a = true then (i, a) :: locL2 (i + 2) r else locL2 (i + 1) r
def padL (n : Nat) (l : List (Option AV)) : List (Option AV) := l ++ List.replicate (n - l.length) none
noncomputable def evm : Nat → Nat → List AV → SS → Option Out
  | 0, _, _, _ => none
  | d + 1, M, as, S => if (locL as).length ≤ mtL M then ev (evm d) M 0 (padL (mtL M) (locL as)) (locL2 0 as) [] S else none
theorem evm_s {d M : Nat} {as : List AV} {S : SS} {n : Nat} {l : List (Option AV)} {l2 : List (Nat × AV)} (hn : mtL M = n) (h1 : (locL as).length ≤ n) (h2 : padL n (locL as) = l) (h3 : locL2 0 as = l2) : evm (d + 1) M as S = ev (evm d) M 0 l l2 [] S := by
  subst hn; subst h2; subst h3
  exact if_pos h1
/-- arrays: what must hold of the object and the index -/
def kI (o : OId) (i : Int32) (r : Option Out) : Option Out := match kOf o with
  | .inr (.int, n) => if inB i n = true then r else none
  | _ => none
def kIw (o : OId) (i : Int32) (r : Option Out) : Option Out := match kOf o with
  | .inr (.int, n) => if inB i n = true ∧ isRo o = false then r else none
  | _ => none
def kB (o : OId) (i : Int32) (r z : Option Out) : Option Out := match kOf o with
  | .inr (.byte, n) => if inB i n = true then r else none
  | .inr (.boolean, n) => if inB i n = true then z else none
  | _ => none
def kBw (o : OId) (i x : Int32) (r : Option Out) : Option Out := match kOf o with
  | .inr (.byte, n) => if inB i n = true ∧ isRo o = false then r else none
  | .inr (.boolean, n) => if inB i n = true ∧ isRo o = false ∧ (x = 0 ∨ x = 1) then r else none
  | _ => none
def kJ (o : OId) (i : Int32) (r : Option Out) : Option Out := match kOf o with
  | .inr (.long, n) => if inB i n = true then r else none
  | _ => none
def kD (o : OId) (i : Int32) (r : Option Out) : Option Out := match kOf o with
  | .inr (.double, n) => if inB i n = true then r else none
  | _ => none
def kQ (o : OId) (i : Int32) (r : Option Out) : Option Out := match kOf o with
  | .inr (.object _, n) => if inB i n = true then r else none
  | _ => none
def kN (o : OId) (k : Int32 → Option Out) : Option Out := match kOf o with
  | .inr (_, n) => k (Int32.ofNat n)
  | .inl _ => none
def kA (r : Option SS) (k : SS → Option Out) : Option Out := match r with
  | some S => k S
  | none => none
section EV2
variable {c : Nat → List AV → SS → Option Out} {M pc : Nat} {L : List (Option AV)} {L2 : List (Nat × AV)} {St : List AV} {S : SS} {n : Nat} {r : Nat × Nat × Nat × Nat} {z : Int}
theorem ev_iaload {i : Int32} {o : OId} (h : insAt M pc = some (.iaload, n, r, z)) : ev c M pc L L2 (aI i :: aR o :: St) S = kI o i (ev c M (pc + 1) L L2 (aI (agI S o i.toNatClampNeg) :: St) S) := by
  unfold kI
  cases hk : kOf o with
  | inl a => exact ev_no h (by simp only [stepI, hk])
  | inr a =>
    obtain ⟨ty, n⟩ := a
    cases ty <;> first | exact ev_if h (by simp only [stepI, hk]; rfl) | exact ev_no h (by simp only [stepI, hk])
theorem ev_iastore {x i : Int32} {o : OId} (h : insAt M pc = some (.iastore, n, r, z)) : ev c M pc L L2 (aI x :: aI i :: aR o :: St) S = kIw o i (ev c M (pc + 1) L L2 St (setI S.1 o i.toNatClampNeg x, S.2)) := by
  unfold kIw
  cases hk : kOf o with
  | inl a => exact ev_no h (by simp only [stepI, hk])
  | inr a =>
    obtain ⟨ty, n⟩ := a
    cases ty <;> first | exact ev_if h (by simp only [stepI, hk]; rfl) | exact ev_no h (by simp only [stepI, hk])
theorem ev_baload {i : Int32} {o : OId} (h : insAt M pc = some (.baload, n, r, z)) : ev c M pc L L2 (aI i :: aR o :: St) S = kB o i (ev c M (pc + 1) L L2 (aI (agB S o i.toNatClampNeg) :: St) S) (ev c M (pc + 1) L L2 (aI (bb (S.1 o i.toNatClampNeg)) :: St) S) := by
  unfold kB
  cases hk : kOf o with
  | inl a => exact ev_no h (by simp only [stepI, hk])
  | inr a =>
    obtain ⟨ty, n⟩ := a
    cases ty <;> first | exact ev_if h (by simp only [stepI, hk]; rfl) | exact ev_no h (by simp only [stepI, hk])
theorem ev_bastore {x i : Int32} {o : OId} (h : insAt M pc = some (.bastore, n, r, z)) : ev c M pc L L2 (aI x :: aI i :: aR o :: St) S = kBw o i x (ev c M (pc + 1) L L2 St (setI S.1 o i.toNatClampNeg x, S.2)) := by
  unfold kBw
  cases hk : kOf o with
  | inl a => exact ev_no h (by simp only [stepI, hk])
  | inr a =>
    obtain ⟨ty, n⟩ := a
    cases ty <;> first | exact ev_if h (by simp only [stepI, hk]; rfl) | exact ev_no h (by simp only [stepI, hk])
theorem ev_laload {i : Int32} {o : OId} (h : insAt M pc = some (.laload, n, r, z)) : ev c M pc L L2 (aI i :: aR o :: St) S = kJ o i (ev c M (pc + 1) L L2 (aL (toL (S.2.1 o i.toNatClampNeg)) :: St) S) := by
  unfold kJ
  cases hk : kOf o with
  | inl a => exact ev_no h (by simp only [stepI, hk])
  | inr a =>
    obtain ⟨ty, n⟩ := a
    cases ty <;> first | exact ev_if h (by simp only [stepI, hk]; rfl) | exact ev_no h (by simp only [stepI, hk])
theorem ev_lastore {x : Int64} {i : Int32} {o : OId} (h : insAt M pc = some (.lastore, n, r, z)) : ev c M pc L L2 (aL x :: aI i :: aR o :: St) S = kJ o i (ev c M (pc + 1) L L2 St (S.1, setV S.2.1 o i.toNatClampNeg (aL x), S.2.2)) := by
  unfold kJ
  cases hk : kOf o with
  | inl a => exact ev_no h (by simp only [stepI, hk])
  | inr a =>
    obtain ⟨ty, n⟩ := a
    cases ty <;> first | exact ev_if h (by simp only [stepI, hk]; rfl) | exact ev_no h (by simp only [stepI, hk])
theorem ev_daload {i : Int32} {o : OId} (h : insAt M pc = some (.daload, n, r, z)) : ev c M pc L L2 (aI i :: aR o :: St) S = kD o i (ev c M (pc + 1) L L2 (aD (toD (S.2.1 o i.toNatClampNeg)) :: St) S) := by
  unfold kD
  cases hk : kOf o with
  | inl a => exact ev_no h (by simp only [stepI, hk])
  | inr a =>
    obtain ⟨ty, n⟩ := a
    cases ty <;> first | exact ev_if h (by simp only [stepI, hk]; rfl) | exact ev_no h (by simp only [stepI, hk])
theorem ev_dastore {x : UInt64} {i : Int32} {o : OId} (h : insAt M pc = some (.dastore, n, r, z)) : ev c M pc L L2 (aD x :: aI i :: aR o :: St) S = kD o i (ev c M (pc + 1) L L2 St (S.1, setV S.2.1 o i.toNatClampNeg (aD x), S.2.2)) := by
  unfold kD
  cases hk : kOf o with
  | inl a => exact ev_no h (by simp only [stepI, hk])
  | inr a =>
    obtain ⟨ty, n⟩ := a
    cases ty <;> first | exact ev_if h (by simp only [stepI, hk]; rfl) | exact ev_no h (by simp only [stepI, hk])
theorem ev_aaload {i : Int32} {o : OId} (h : insAt M pc = some (.aaload, n, r, z)) : ev c M pc L L2 (aI i :: aR o :: St) S = kQ o i (ev c M (pc + 1) L L2 (S.2.2.1 o i.toNatClampNeg :: St) S) := by
  unfold kQ
  cases hk : kOf o with
  | inl a => exact ev_no h (by simp only [stepI, hk])
  | inr a =>
    obtain ⟨ty, n⟩ := a
    cases ty <;> first | exact ev_if h (by simp only [stepI, hk]; rfl) | exact ev_no h (by simp only [stepI, hk])
theorem ev_alen {o : OId} (h : insAt M pc = some (.arraylength, n, r, z)) : ev c M pc L L2 (aR o :: St) S = kN o (fun x => ev c M (pc + 1) L L2 (aI x :: St) S) := by
  unfold kN
  cases hk : kOf o with
  | inl a => exact ev_no h (by simp only [stepI, hk])
  | inr a =>
    obtain ⟨ty, n⟩ := a
    exact ev_go h (by simp only [stepI, hk]; rfl)
theorem ev_acopy {k : Nat} {x dp sp : Int32} {d s : OId} (hr : r.2.2.1 = 21) (h : insAt M pc = some (.invokestatic k, n, r, z)) (hl : St.length ≤ 4) : ev c M pc L L2 (aI x :: aI dp :: aR d :: aI sp :: aR s :: St) S = kA (acp S s sp d dp x) (fun S' => ev c M (pc + 3) L L2 St S') := by
  have e : stepI c (mtH M) (mtR M) pc (some (.invokestatic k, n, r, z)) L L2 (aI x :: aI dp :: aR d :: aI sp :: aR s :: St) S = (match acp S s sp d dp x with | some S' => nx (pc + 3) L L2 St S' | none => none) := by
    simp only [stepI, inv, hr, if_pos hl]
    try rfl
  unfold kA
  cases ha : acp S s sp d dp x with
  | none => exact ev_no h (by rw [e, ha])
  | some S' => exact ev_go h (by rw [e, ha]; rfl)
end EV2
theorem hnd_lt {hs : List HE} {n : Nat} (h : hs.all (fun q => decide (q.2.2.2.1 < n)) = true) {pc a b : Nat} {E : String} (hh : hnd hs pc E = some (a, b)) : b < n := by
  induction hs with
  | nil => cases hh
  | cons q r ih =>
    obtain ⟨x0, x1, x2, x3, x4⟩ := q
    simp only [List.all_cons, Bool.and_eq_true, decide_eq_true_eq] at h
    unfold hnd at hh
    split at hh
    · cases hh
      exact h.1
    · exact ih h.2 hh
theorem ev_rt {c : Nat → List AV → SS → Option Out} {M pc : Nat} {L : List (Option AV)} {L2 : List (Nat × AV)} {St : List AV} {S : SS} {p : Prop} [Decidable p] {o : Out} {q : IE} (h : insAt M pc = some q) (hs : stepI c (mtH M) (mtR M) pc (some q) L L2 St S = if decide p = true then some (.inr o) else none) : ev c M pc L L2 St S = if p then some o else none := by
  by_cases hp : p
  · rw [if_pos hp]
    rw [if_pos (decide_eq_true hp)] at hs
    exact ev_end h hs
  · rw [if_neg hp]
    rw [if_neg (by rw [decide_eq_false hp]; exact Bool.false_ne_true)] at hs
    exact ev_no h hs
