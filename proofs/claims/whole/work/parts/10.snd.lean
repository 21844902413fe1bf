/-! SOUNDNESS: what a state of the small machine says of the heap -/
abbrev KX : Type := va_G × (FieldType → ClassId) × Nat × (Nat → Nat) × (Nat → Nat) × Nat × Nat × Nat × Nat × (Nat → Int32) × Value
def xD (K : KX) : va_G := K.1
def xt (K : KX) : FieldType → ClassId := K.2.1
def xz (K : KX) : Nat := K.2.2.1
def xk (K : KX) : Nat → Nat := K.2.2.2.1
def xv (K : KX) : Nat → Nat := K.2.2.2.2.1
def xT (K : KX) : Nat := K.2.2.2.2.2.1
def xO (K : KX) : Nat := K.2.2.2.2.2.2.1
def xb (K : KX) : Nat := K.2.2.2.2.2.2.2.1
def xL (K : KX) : Nat := K.2.2.2.2.2.2.2.2.1
def xS (K : KX) : Nat → Int32 := K.2.2.2.2.2.2.2.2.2.1
def xn (K : KX) : Value := K.2.2.2.2.2.2.2.2.2.2
/-- what the run may write: what it has made itself -/
def xA (K : KX) : Nat → Prop := fun q => xz K ≤ q
def xTy (K : KX) : List (ClassId × FieldType) := [(xt K .int, .int), (xt K .long, .long), (xt K .byte, .byte), (xt K .boolean, .boolean), (xt K .double, .double), (xt K kSt, kSt), (xt K kBk, kBk)]
abbrev zB : String × String × String := ("jdk/internal/util/Preconditions", "SIOOBE_FORMATTER", "Ljava/util/function/BiFunction;")
/-- what doesn't change while the law runs: the tables, the script, constants, statics -/
def EnvU (K : KX) (U : State) (H : Heap) : Prop :=
  GP U ∧ va_K (xD K) vwCl (xTy K) U ∧ xz K ≤ H.size ∧ va_X (xb K) (xL K) (xS K) U H ∧ xb K < xz K ∧
  vk_S 3 [2, 2, 2] [[32, 99], [32, 84], [32, 76]] (xk K) (xv K) (xA K) U H ∧
  va_T .byte (xT K) 100 (fun j => .int (roB (45, 0, 0) j)) (xA K) U H ∧ va_T .byte (xO K) 100 (fun j => .int (roB (46, 0, 0) j)) (xA K) U H ∧
  va_Z "java/lang/String" "COMPACT_STRINGS" "Z" (.int 1) (xA K) U H ∧ va_Z "java/lang/Integer" "DigitTens" "[B" (.ref (xT K)) (xA K) U H ∧ va_Z "java/lang/Integer" "DigitOnes" "[B" (.ref (xO K)) (xA K) U H ∧
  va_Z zB.1 zB.2.1 zB.2.2 (xn K) (xA K) U H ∧ (xn K = .null ∨ ∃ a, xn K = .ref a) ∧
  vx_Zq Bundle.tN "UNASSIGNED_STACK" Bundle.steD (xA K) U H ∧ vx_Zq Bundle.tN "SUPPRESSED_SENTINEL" Bundle.listD (xA K) U H ∧
  (∀ i, i < 3 → vk_R "FrequencyOffice" (([312, 317, 319] : List Nat).getD i 0) (([" c", " T", " L"] : List String).getD i "") (xk K i) U) ∧
  (∀ q ∈ exS, ∃ a, vk_R "FrequencyOffice" q.1 q.2 a U) ∧ (∀ i j, i < 6 → j < 6 → i ≠ j → va_Nc (exN i) (exN j) U) ∧ va_AO "FrequencyOffice$Station" U ∧ va_AO "FrequencyOffice$Books" U
theorem EnvU.moved {K : KX} {s U : State} {H H1 : Heap} (hW : s.WarmedH U.vm) (hsz : H.size ≤ H1.size) (hk : ∀ q : Nat, q < H.size → ¬ xA K q → H1[q]? = H[q]?) (h : EnvU K s H) : EnvU K U H1 := by
  obtain ⟨a1, a2, a3, a4, a5, a6, a7, a8, a9, b1, b2, b3, b4, b5, b6, b7, b8, b9, c1, c2⟩ := h
  have hv := hW.alike
  have hb : H1[xb K]? = H[xb K]? := hk _ (Nat.lt_of_lt_of_le a5 a3) (Nat.not_le.mpr a5)
  exact ⟨a1.warm hW, a2.moved hv, Nat.le_trans a3 hsz, (a4.kept hb).moved hv, a5, (a6.kept hk).moved hv, (a7.kept hk).moved hv, (a8.kept hk).moved hv, (a9.kept hk).moved hv, (b1.kept hk).moved hv, (b2.kept hk).moved hv, (b3.kept hk).moved hv, b4, (b5.kept hk).moved hv, (b6.kept hk).moved hv, fun i hi => (b7 i hi).warm hW, fun q hq => (b8 q hq).imp fun a ha => ha.warm hW, fun i j hi hj hij => (b9 i j hi hj hij).moved hv, c1.moved hv, c2.moved hv⟩
def ad (K : KX) (ρ : OId → Nat) (o : OId) : Nat := match o.1 with
  | 0 => if o.2.2 = 1 then xk K o.2.1 else ρ o
  | 44 => xb K
  | 45 => xT K
  | 46 => xO K
  | 47 => xv K o.2.1
  | 48 => 0
  | _ => ρ o
def av (K : KX) (ρ : OId → Nat) (v : AV) : Value := match v with
  | .inl x => x
  | .inr o => if o.1 = 48 then xn K else .ref (ad K ρ o)
def rfO (K : KX) (ρ : OId → Nat) (v : AV) : Option Nat := match v with
  | .inr o => some (ad K ρ o)
  | _ => none
abbrev VA2 : Type := (Nat → Int32) ⊕ (Nat → Int64) ⊕ (Nat → UInt32) ⊕ (Nat → UInt64) ⊕ (Nat → Option Nat)
def elA (K : KX) (ρ : OId → Nat) (S : SS) (o : OId) (ty : FieldType) : VA2 := match ty with
  | .long => .inr (.inl (fun k => toL (S.2.1 o k)))
  | .double => .inr (.inr (.inr (.inl (fun k => toD (S.2.1 o k)))))
  | .object _ => .inr (.inr (.inr (.inr (fun k => rfO K ρ (S.2.2.1 o k)))))
  | .byte => .inl (fun k => by8 (S.1 o k))
  | .boolean => .inl (fun k => bb (S.1 o k))
  | _ => .inl (fun k => S.1 o k)
def elF (K : KX) (ρ : OId → Nat) (S : SS) (o : OId) (c : Nat) : List Value := (List.range (nfl c)).map fun k => av K ρ (fget S c k o)
def elem (K : KX) (ρ : OId → Nat) (S : SS) (o : OId) : va_E := match kOf o with
  | .inl c => .inr (c, elF K ρ S o c)
  | .inr (ty, n) => .inl (xt K ty, n, elA K ρ S o ty)
abbrev lv (S : SS) : List OId := S.2.2.2.1
abbrev nxt (S : SS) : Nat := S.2.2.2.2.1
abbrev cel (S : SS) : Nat := S.2.2.2.2.2.2.1
abbrev slo (S : SS) : Nat := S.2.2.2.2.2.2.2.1
def wsO (K : KX) (ρ : OId → Nat) (S : SS) : va_W := (lv S).map fun o => (ρ o, elem K ρ S o)
def Pic (K : KX) (ρ : OId → Nat) (S : SS) (H : Heap) : Prop := va_P (xD K) vwCl (wsO K ρ S) H ∧ va_D (xA K) (wsO K ρ S)
def roK (K : KX) (o : OId) : Prop := o = (44, xL K, 0) ∨ o = (45, 0, 0) ∨ o = (46, 0, 0) ∨ (∃ i, i < 3 ∧ o = (47, i, 0)) ∨ (∃ i, i < 3 ∧ o = (0, i, 1)) ∨ o = (48, 0, 0)
def okO (K : KX) (l : List OId) (o : OId) : Prop := o ∈ l ∨ roK K o
def okA (K : KX) (l : List OId) (v : AV) : Prop := ∀ o, v = .inr o → okO K l o
def arR (o : OId) : Bool := match kOf o with
  | .inr (.object _, _) => true
  | _ => false
/-- what a place for a reference may hold: in an array of references never the foreign one -/
def refOk (K : KX) (l : List OId) (o : OId) (v : AV) : Prop := okA K l v ∧ (arR o = true → v = aN ∨ ∃ o', v = aR o' ∧ o'.1 ≠ 48)
def WF (K : KX) (S : SS) : Prop :=
  (lv S).Nodup ∧ (∀ o ∈ lv S, isRo o = false) ∧ (∀ o ∈ lv S, (o.1 < 2 ∧ o.2.2 = 2 ∨ o.1 = 60) → o.2.1 < nxt S) ∧
  (∀ o ∈ lv S, ∀ k, okA K (lv S) (S.2.1 o k) ∧ refOk K (lv S) o (S.2.2.1 o k)) ∧ S.2.2.2.2.2.2.2.2 = xS K ∧ ∀ o ∈ S.2.2.2.2.2.1, kOf o ≠ .inl 3
theorem ad_live {K : KX} {ρ : OId → Nat} {o : OId} (h : isRo o = false) : ad K ρ o = ρ o := by
  unfold isRo at h
  unfold ad
  split <;> simp_all
theorem av_int {K : KX} {ρ : OId → Nat} {x : Value} : av K ρ (.inl x) = x := rfl
theorem okA_inl {K : KX} {l : List OId} {x : Value} : okA K l (.inl x) := fun o h => by cases h
theorem okA_inr {K : KX} {l : List OId} {o : OId} (h : okO K l o) : okA K l (.inr o) := fun o' e => by cases e; exact h
theorem ad_same {K : KX} {ρ ρ' : OId → Nat} {l : List OId} {o : OId} (h : ∀ o ∈ l, ρ' o = ρ o) (ho : okO K l o) : ad K ρ' o = ad K ρ o := by
  rcases ho with hl | hr
  · have e := h o hl
    unfold ad
    split <;> simp_all
  · rcases hr with rfl | rfl | rfl | ⟨i, -, rfl⟩ | ⟨i, -, rfl⟩ | rfl <;> rfl
theorem av_same {K : KX} {ρ ρ' : OId → Nat} {l : List OId} {v : AV} (h : ∀ o ∈ l, ρ' o = ρ o) (hv : okA K l v) : av K ρ' v = av K ρ v := by
  cases v with
  | inl x => rfl
  | inr o =>
    unfold av
    by_cases h48 : o.1 = 48
    · simp only [if_pos h48]
    · simp only [if_neg h48, ad_same h (hv o rfl)]
theorem fget_congr {S S' : SS} {c k : Nat} {o : OId} (h1 : S'.1 o = S.1 o) (h2 : S'.2.1 o = S.2.1 o) (h3 : S'.2.2.1 o = S.2.2.1 o) : fget S' c k o = fget S c k o := by
  unfold fget
  split <;> simp only [h1, h2, h3]
theorem elem_congr {K : KX} {ρ : OId → Nat} {S S' : SS} {o : OId} (h1 : S'.1 o = S.1 o) (h2 : S'.2.1 o = S.2.1 o) (h3 : S'.2.2.1 o = S.2.2.1 o) : elem K ρ S' o = elem K ρ S o := by
  unfold elem
  split
  · congr 2
    unfold elF
    congr 1
    funext k
    rw [fget_congr h1 h2 h3]
  · unfold elA
    simp only [h1, h2, h3]
theorem ws_at {K : KX} {ρ : OId → Nat} {S : SS} {o : OId} (h : o ∈ lv S) : ∃ j : Nat, (lv S)[j]? = some o ∧ (wsO K ρ S)[j]? = some (ρ o, elem K ρ S o) := by
  obtain ⟨j, hj⟩ := List.getElem?_of_mem h
  exact ⟨j, hj, by unfold wsO; rw [List.getElem?_map, hj]; rfl⟩
theorem nodup_at : ∀ {l : List OId}, l.Nodup → ∀ {i j : Nat} {o : OId}, l[i]? = some o → l[j]? = some o → i = j
  | [], _, i, j, o, h, _ => by simp at h
  | a :: l, hn, i, j, o, h1, h2 => by
    obtain ⟨n1, n2⟩ := List.nodup_cons.mp hn
    cases i with
    | zero =>
      cases j with
      | zero => rfl
      | succ j =>
        rw [List.getElem?_cons_zero] at h1
        rw [List.getElem?_cons_succ] at h2
        cases h1
        exact absurd (List.mem_of_getElem? h2) n1
    | succ i =>
      rw [List.getElem?_cons_succ] at h1
      cases j with
      | zero =>
        rw [List.getElem?_cons_zero] at h2
        cases h2
        exact absurd (List.mem_of_getElem? h1) n1
      | succ j =>
        rw [List.getElem?_cons_succ] at h2
        rw [nodup_at n2 h1 h2]
theorem map_set {β : Type} {l : List OId} {f g : OId → β} {o : OId} {j : Nat} (nd : l.Nodup) (hj : l[j]? = some o) (h : ∀ o', o' ≠ o → f o' = g o') : (l.map f).set j (g o) = l.map g := by
  apply List.ext_getElem?
  intro i
  rw [List.getElem?_set, List.getElem?_map, List.length_map]
  have hjl : j < l.length := (List.getElem?_eq_some_iff.mp hj).1
  by_cases hij : j = i
  · subst hij
    rw [if_pos rfl, if_pos hjl, List.getElem?_map, hj]
    rfl
  · rw [if_neg hij, List.getElem?_map]
    cases hi : l[i]? with
    | none => rfl
    | some o' => exact congrArg some (h o' (fun e => hij (nodup_at nd hj (e ▸ hi))))
/-- one object has changed -/
theorem ws_set {K : KX} {ρ : OId → Nat} {S S' : SS} {o : OId} {j : Nat} (nd : (lv S).Nodup) (hj : (lv S)[j]? = some o) (hl : lv S' = lv S) (h1 : ∀ o', o' ≠ o → S'.1 o' = S.1 o') (h2 : ∀ o', o' ≠ o → S'.2.1 o' = S.2.1 o') (h3 : ∀ o', o' ≠ o → S'.2.2.1 o' = S.2.2.1 o') : (wsO K ρ S).set j (ρ o, elem K ρ S' o) = wsO K ρ S' := by
  have h := map_set (f := fun o => (ρ o, elem K ρ S o)) (g := fun o => (ρ o, elem K ρ S' o)) nd hj (fun o' hne => congrArg (fun x => (ρ o', x)) (elem_congr (h1 o' hne) (h2 o' hne) (h3 o' hne)).symm)
  unfold wsO
  rw [hl]
  exact h
theorem setI_ne {I : OId → Nat → Int32} {o o' : OId} {k : Nat} {v : Int32} (h : o' ≠ o) : setI I o k v o' = I o' := by
  funext k'
  unfold setI
  rw [if_neg (fun q => h q.1)]
theorem setV_ne {I : OId → Nat → AV} {o o' : OId} {k : Nat} {v : AV} (h : o' ≠ o) : setV I o k v o' = I o' := by
  funext k'
  unfold setV
  rw [if_neg (fun q => h q.1)]
theorem setRow_ne {I : OId → Nat → Int32} {o o' : OId} {f : Nat → Int32} (h : o' ≠ o) : setRow I o f o' = I o' := by
  funext k'
  unfold setRow
  rw [if_neg h]
theorem setRowV_ne {I : OId → Nat → AV} {o o' : OId} {f : Nat → AV} (h : o' ≠ o) : setRowV I o f o' = I o' := by
  funext k'
  unfold setRowV
  rw [if_neg h]
theorem setI_at {I : OId → Nat → Int32} {o : OId} {k k' : Nat} {v : Int32} : setI I o k v o k' = if k' = k then v else I o k' := by
  unfold setI
  by_cases h : k' = k
  · rw [if_pos ⟨rfl, h⟩, if_pos h]
  · rw [if_neg (fun q => h q.2), if_neg h]
theorem setV_at {I : OId → Nat → AV} {o : OId} {k k' : Nat} {v : AV} : setV I o k v o k' = if k' = k then v else I o k' := by
  unfold setV
  by_cases h : k' = k
  · rw [if_pos ⟨rfl, h⟩, if_pos h]
  · rw [if_neg (fun q => h q.2), if_neg h]
theorem bb_bb (x : Int32) : bb (bb x) = bb x := by
  unfold bb
  by_cases h : x = 0
  · rw [if_pos h]; rfl
  · rw [if_neg h]; rfl
theorem bb_of {x : Int32} (h : x = 0 ∨ x = 1) : bb x = x := by
  rcases h with rfl | rfl <;> rfl
theorem bb_01 (x : Int32) : bb x = 0 ∨ bb x = 1 := by
  unfold bb
  by_cases h : x = 0
  · rw [if_pos h]; exact Or.inl rfl
  · rw [if_neg h]; exact Or.inr rfl
theorem by8_by8 (x : Int32) : by8 (by8 x) = by8 x := by
  unfold by8
  rw [Int8.toInt8_toInt32]
