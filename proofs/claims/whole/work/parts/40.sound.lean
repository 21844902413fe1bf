/-! SOUNDNESS: a method's run, and all calls by their depth -/
section STEP31
variable {K : KX} {M : Nat} {p : Program} {l : Launch} {e : Env} {R : Room} {s : State} {m : MethodId} {args : Array Value} {below : List Frame} {meth : Method} {c : Code} {S0 : SS} {ρ0 : OId → Nat} {cm : Nat → List AV → SS → Option Out} {d : Nat}
theorem snd (C0 : Cx K M p l s m meth c) (ih : IH K l d cm) (hM : M < 311) (ht : c.exceptionTable.toList = tableOf (hhT.getD M [])) (hr : meth.sig.returnType = mtR M) (hlk : meth.locks = false) (hR : d + 11 ≤ R.frames ∧ 64 * d + 264 ≤ R.locals) :
    ∀ (n : Nat) (g : Cfg) (o9 : Out), run cm M n g = some o9 → cel o9.2 - cel S0 ≤ R.cells → slo o9.2 - slo S0 ≤ R.slots → Gd K M p l e R s m args below meth c (RQ K below ρ0 S0 o9 args s) S0 ρ0 g
  | 0, _, _, h, _, _ => by cases h
  | n + 1, g, o9, h, hc, hs => by
    obtain ⟨pc, L, L2, St, S⟩ := g
    have hcm : ∀ M' as S o, M' < 311 → cm M' as S = some o → Mo S o.2 := fun M' as S o h1 h2 => (ih M' as S o h1 h2).1
    rw [run_s] at h
    cases hi : insAt M pc with
    | none =>
      have e9 : stepE cm M (pc, L, L2, St, S) = none := by
        show stepI cm (mtH M) (mtR M) pc (insAt M pc) L L2 St S = none
        rw [hi]
        rfl
      rw [e9] at h
      cases h
    | some q =>
      obtain ⟨ins, len, r, z⟩ := q
      have e9 : stepE cm M (pc, L, L2, St, S) = stepI cm (mtH M) (mtR M) pc (some (ins, len, r, z)) L L2 St S := by
        show stepI cm (mtH M) (mtR M) pc (insAt M pc) L L2 St S = _
        rw [hi]
      rw [e9] at h
      cases hx : stepI cm (mtH M) (mtR M) pc (some (ins, len, r, z)) L L2 St S with
      | none => rw [hx] at h; cases h
      | some x =>
        rw [hx] at h
        cases x with
        | inr o =>
          cases h
          exact step_r C0 ih hM ht hr hi hx hR hc hs hlk
        | inl g' =>
          have hmo := run_mo hcm n g' o9 h
          exact step_l C0 ih (Or.inr ⟨hM, ht⟩) hi hx hR (Nat.le_trans (Nat.sub_le_sub_right hmo.1 _) hc) (Nat.le_trans (Nat.sub_le_sub_right hmo.2 _) hs) (snd C0 ih hM ht hr hlk hR n g' o9 h hc hs)
end STEP31
section ENTRY
variable {K : KX} {ρ : OId → Nat}
theorem av_cat2 {v : AV} (h : cat2 v = true) : (av K ρ v).category = 2 := by
  cases v with
  | inl x => cases x <;> first | rfl | cases h
  | inr o => cases h
theorem sl_cons (v : Value) (r : List Value) : lg_sl (v :: r) = (if v.category = 2 then [.val v, .second] else [.val v]) ++ lg_sl r := by
  unfold lg_sl
  rw [List.flatMap_cons]
theorem cat_n2 (hn : xn K = .null ∨ ∃ a, xn K = .ref a) {v : AV} (h : ¬ cat2 v = true) : ¬ (av K ρ v).category = 2 := by
  rw [av_cat hn (Bool.eq_false_iff.mpr h)]
  decide
theorem ent_len (hn : xn K = .null ∨ ∃ a, xn K = .ref a) : ∀ as : List AV, (lg_sl (as.map (av K ρ))).length = (locL as).length
  | [] => rfl
  | a :: r => by
    have ih := ent_len hn r
    rw [List.map_cons, sl_cons]
    unfold locL
    by_cases h : cat2 a = true
    · rw [if_pos h, if_pos (av_cat2 h)]
      simp only [List.length_append, List.length_cons, List.length_nil, ih]
      omega
    · rw [if_neg h, if_neg (cat_n2 hn h)]
      simp only [List.length_append, List.length_cons, List.length_nil, ih]
      omega
theorem ent_1 (hn : xn K = .null ∨ ∃ a, xn K = .ref a) : ∀ (as : List AV) (j i : Nat) (a : AV), (locL as)[i]? = some (some a) → (j + i, av K ρ a) ∈ lv_args j (as.map (av K ρ)) ∧ a ∈ as ∧ cat2 a = false
  | [], j, i, a, h => by
    unfold locL at h
    rw [List.getElem?_nil] at h
    cases h
  | b :: r, j, i, a, h => by
    unfold locL at h
    rw [List.map_cons]
    unfold lv_args
    by_cases hb : cat2 b = true
    · rw [if_pos hb] at h
      rw [if_pos (av_cat2 hb)]
      match i, h with
      | 0, h => rw [List.getElem?_cons_zero] at h; cases h
      | 1, h => rw [List.getElem?_cons_succ, List.getElem?_cons_zero] at h; cases h
      | i + 2, h =>
        rw [List.getElem?_cons_succ, List.getElem?_cons_succ] at h
        obtain ⟨h1, h2, h3⟩ := ent_1 hn r (j + 2) i a h
        rw [show j + (i + 2) = j + 2 + i by omega]
        exact ⟨List.mem_cons_of_mem _ h1, List.mem_cons_of_mem _ h2, h3⟩
    · rw [if_neg hb] at h
      rw [if_neg (cat_n2 hn hb)]
      match i, h with
      | 0, h =>
        rw [List.getElem?_cons_zero] at h
        cases h
        exact ⟨List.mem_cons_self, List.mem_cons_self, Bool.eq_false_iff.mpr hb⟩
      | i + 1, h =>
        rw [List.getElem?_cons_succ] at h
        obtain ⟨h1, h2, h3⟩ := ent_1 hn r (j + 1) i a h
        rw [show j + (i + 1) = j + 1 + i by omega]
        exact ⟨List.mem_cons_of_mem _ h1, List.mem_cons_of_mem _ h2, h3⟩
theorem ent_2 (hn : xn K = .null ∨ ∃ a, xn K = .ref a) : ∀ (as : List AV) (j : Nat) (q : Nat × AV), q ∈ locL2 j as → (q.1, av K ρ q.2) ∈ lv_args j (as.map (av K ρ)) ∧ q.2 ∈ as ∧ cat2 q.2 = true
  | [], j, q, h => by
    unfold locL2 at h
    exact absurd h List.not_mem_nil
  | b :: r, j, q, h => by
    unfold locL2 at h
    rw [List.map_cons]
    unfold lv_args
    by_cases hb : cat2 b = true
    · rw [if_pos hb] at h
      rw [if_pos (av_cat2 hb)]
      rcases List.mem_cons.mp h with rfl | h
      · exact ⟨List.mem_cons_self, List.mem_cons_self, hb⟩
      · obtain ⟨h1, h2, h3⟩ := ent_2 hn r (j + 2) q h
        exact ⟨List.mem_cons_of_mem _ h1, List.mem_cons_of_mem _ h2, h3⟩
    · rw [if_neg hb] at h
      rw [if_neg (cat_n2 hn hb)]
      obtain ⟨h1, h2, h3⟩ := ent_2 hn r (j + 1) q h
      exact ⟨List.mem_cons_of_mem _ h1, List.mem_cons_of_mem _ h2, h3⟩
theorem pad_at {n i : Nat} {l : List (Option AV)} {a : AV} (h : (padL n l)[i]? = some (some a)) : l[i]? = some (some a) := by
  unfold padL at h
  rw [List.getElem?_append] at h
  split at h
  · exact h
  · rw [List.getElem?_replicate] at h
    split at h <;> cases h
/-- a method's entry -/
theorem Fs_0 {M : Nat} {S : SS} {H : Heap} {as : List AV} (hn : xn K = .null ∨ ∃ a, xn K = .ref a) (hP : Pic K ρ S H) (hW : WF K S) (hok : ∀ v ∈ as, okA K (lv S) v) (hl : (locL as).length ≤ mtL M) :
    Fs K M S ρ H ρ H [] ((lg_sl (as.map (av K ρ)) ++ List.replicate (mtL M - (lg_sl (as.map (av K ρ))).length) Slot.unset).toArray) (padL (mtL M) (locL as)) (locL2 0 as) [] S := by
  have he := lv_entry (as.map (av K ρ)) (n := mtL M) (by rw [ent_len hn]; exact hl)
  refine ⟨⟨hP, hW, ⟨Nat.le_refl _, fun _ _ _ => rfl, fun q h => absurd h List.not_mem_nil⟩, Nat.le_refl _, Nat.le_refl _, fun o h => ⟨h, rfl⟩⟩, ⟨⟨he.1, he.2.1, fun q hq => he.2.2 q ?_⟩, ?_, fun v hv => ?_, fun q hq => ?_⟩, fun v h => absurd h List.not_mem_nil⟩
  · rcases lvl_mem.mp hq with ⟨v, h1, h2⟩ | ⟨v, h1, h2⟩
    · obtain ⟨h3, -, -⟩ := ent_1 (ρ := ρ) hn as 0 q.1 v (pad_at h1)
      rw [Nat.zero_add, ← h2] at h3
      exact h3
    · obtain ⟨h3, -, -⟩ := ent_2 (ρ := ρ) hn as 0 (q.1, v) h1
      rw [← h2] at h3
      exact h3
  · unfold padL
    rw [List.length_append, List.length_replicate]
    omega
  · obtain ⟨i, hi⟩ := List.getElem?_of_mem hv
    obtain ⟨-, h2, h3⟩ := ent_1 (ρ := ρ) hn as 0 i v (pad_at hi)
    exact ⟨hok v h2, h3⟩
  · obtain ⟨-, h2, h3⟩ := ent_2 (ρ := ρ) hn as 0 q hq
    exact ⟨hok _ h2, h3⟩
end ENTRY
theorem cx_of {K : KX} {M : Nat} {p : Program} {l : Launch} {S9 : Spec} {e : Env} {s s₁ : State} {m : MethodId} {args : Array Value} {below : List Frame} {meth : Method} {c : Code} (hst : l.stackTraces = false) (B : BodyLoose p l (mtY M) S9 (mtC M) (mtL M) (mtR M) e s m args below meth c s₁) (hml : c.maxLocals = mtL M) (hE : EnvU K s s.heap) : Cx K M p l s m meth c :=
  ⟨B.exec, B.bytes, hml, findClass_of_methodNamed B.named, hE, hst, (name_of_methodNamed B.named B.method).1⟩
/-- calls of depth d: the small machine's answer is the machine's -/
theorem cm_ok {K : KX} {l : Launch} (hst : l.stackTraces = false) : ∀ d : Nat, IH K l d (evm d)
  | 0 => fun M' as S o9 _ h => by cases h
  | d + 1 => fun M as S o9 hM h => by
    have ih := cm_ok (K := K) hst d
    have hcm : ∀ M' as S o, M' < 311 → evm d M' as S = some o → Mo S o.2 := fun M' as S o h1 h2 => (ih M' as S o h1 h2).1
    replace h : (if (locL as).length ≤ mtL M then ev (evm d) M 0 (padL (mtL M) (locL as)) (locL2 0 as) [] S else none) = some o9 := h
    by_cases hl : (locL as).length ≤ mtL M
    · rw [if_pos hl] at h
      obtain ⟨n, hn⟩ := run_of_ev h
      have hmo := run_mo hcm n _ o9 hn
      refine ⟨hmo, fun ρ => ?_⟩
      obtain ⟨p1, p2, p3, p4, p5, p6⟩ := mP_of hM
      cases hh : hhT.getD M [] with
      | nil =>
        have hcw := hh_code hh
        refine vx_ofW (cc := mtC M) (maxL := mtL M) (ret := mtR M) p5 (ws' := []) (by rw [hcw]) ?_
        intro p e s m args below meth c s₁ B hml hnt hP
        obtain ⟨rfl, hE, hPic, hWF, hok⟩ := hP
        have C0 := cx_of hst B hml hE
        have g := snd (R := { frames := d + 1 + 10, locals := 64 * (d + 1) + 200, cells := cel o9.2 - cel S, slots := slo o9.2 - slo S }) (S0 := S) (ρ0 := ρ) (e := e) (args := (as.map (av K ρ)).toArray) (below := below) C0 ih hM (by
          rw [hh]
          cases ht : c.exceptionTable.toList with
          | nil => rfl
          | cons x r => exact (hnt x (by rw [ht]; exact List.mem_cons_self)).elim) B.returns B.notSynchronized ⟨by show d + 11 ≤ d + 1 + 10; omega, by show 64 * d + 264 ≤ 64 * (d + 1) + 200; omega⟩ n _ o9 hn (Nat.le_refl _) (Nat.le_refl _) ρ s.heap [] _ (Fs_0 C0.hn hPic hWF hok hl)
        rw [lg_entry_eq]
        replace g : W p l e _ s m _ below meth c s.heap [] (cel S - cel S) (slo S - slo S) _ _ := g
        rw [Nat.sub_self, Nat.sub_self] at g
        exact g
      | cons q9 r9 =>
        have hcw : codeW M = .codeWith (mtY M) (mtC M) (mtL M) (mtR M) (q9 :: r9) := by
          unfold codeW
          rw [hh]
        refine vx_ofWH (cc := mtC M) (maxL := mtL M) (ret := mtR M) (hh := q9 :: r9) p5 (ws' := []) (by rw [hcw]) ?_
        intro p e s m args below meth c s₁ B hml hP
        have hpre : (Cond.codeWith (mtY M) (mtC M) (mtL M) (mtR M) (q9 :: r9)).before args s = true := by
          rw [← hcw]
          exact atoms_spec (ws := [codeW M]) B.pre _ List.mem_cons_self
        have htab := vx_table (x := mtY M) B hpre
        obtain ⟨rfl, hE, hPic, hWF, hok⟩ := hP
        have C0 := cx_of hst B hml hE
        have g := snd (R := { frames := d + 1 + 10, locals := 64 * (d + 1) + 200, cells := cel o9.2 - cel S, slots := slo o9.2 - slo S }) (S0 := S) (ρ0 := ρ) (e := e) (args := (as.map (av K ρ)).toArray) (below := below) C0 ih hM (by rw [hh]; exact htab) B.returns B.notSynchronized ⟨by show d + 11 ≤ d + 1 + 10; omega, by show 64 * d + 264 ≤ 64 * (d + 1) + 200; omega⟩ n _ o9 hn (Nat.le_refl _) (Nat.le_refl _) ρ s.heap [] _ (Fs_0 C0.hn hPic hWF hok hl)
        rw [lg_entry_eq]
        replace g : W p l e _ s m _ below meth c s.heap [] (cel S - cel S) (slo S - slo S) _ _ := g
        rw [Nat.sub_self, Nat.sub_self] at g
        exact g
    · rw [if_neg hl] at h
      cases h
