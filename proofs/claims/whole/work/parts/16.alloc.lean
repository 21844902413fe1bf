/-! SOUNDNESS: what is new -/
theorem okO.mono {K : KX} {l l' : List OId} (h : ∀ o ∈ l, o ∈ l') {o : OId} (ho : okO K l o) : okO K l' o := ho.imp (h o) id
theorem okA.mono {K : KX} {l l' : List OId} (h : ∀ o ∈ l, o ∈ l') {v : AV} (hv : okA K l v) : okA K l' v := fun o e => (hv o e).mono h
theorem rfO_same {K : KX} {ρ ρ' : OId → Nat} {l : List OId} {v : AV} (h : ∀ o ∈ l, ρ' o = ρ o) (hv : okA K l v) : rfO K ρ' v = rfO K ρ v := by
  cases v with
  | inl x => rfl
  | inr o => exact congrArg some (ad_same h (hv o rfl))
theorem fget_ok {K : KX} {S : SS} {c k : Nat} {o : OId} {l : List OId} (hc : c = 0 → ¬ o.2.2 = 1) (h1 : okA K l (S.2.1 o k)) (h2 : okA K l (S.2.2.1 o k)) : okA K l (fget S c k o) := by
  unfold fget
  split
  · rw [if_neg (hc rfl)]
    split <;> first | exact okA_inl | exact h2 | exact h1
  · split <;> first | exact okA_inl | exact h2 | exact h1
theorem kOf_0 {o : OId} (h : kOf o = .inl 0) : o.1 = 0 := by
  unfold kOf at h
  split at h <;> simp_all
theorem ro_0 {o : OId} {c : Nat} (hk : kOf o = .inl c) (hr : isRo o = false) : c = 0 → ¬ o.2.2 = 1 := by
  rintro rfl h
  unfold isRo at hr
  rw [kOf_0 hk] at hr
  simp [h] at hr
/-- the same picture under another naming of what is new -/
theorem elem_same {K : KX} {ρ ρ' : OId → Nat} {S : SS} {o : OId} {l : List OId} (h : ∀ o ∈ l, ρ' o = ρ o) (hr : isRo o = false) (hv : ∀ k, okA K l (S.2.1 o k) ∧ okA K l (S.2.2.1 o k)) : elem K ρ' S o = elem K ρ S o := by
  cases hk : kOf o with
  | inl c =>
    rw [elem_obj hk, elem_obj hk]
    congr 2
    unfold elF
    congr 1
    funext k
    exact av_same h (fget_ok (ro_0 hk hr) (hv k).1 (hv k).2)
  | inr tn =>
    obtain ⟨ty, n⟩ := tn
    rw [elem_arr hk, elem_arr hk]
    congr 3
    cases ty with
    | object C =>
      show (Sum.inr (Sum.inr (Sum.inr (Sum.inr (fun k => rfO K ρ' (S.2.2.1 o k))))) : VA2) = Sum.inr (Sum.inr (Sum.inr (Sum.inr (fun k => rfO K ρ (S.2.2.1 o k)))))
      congr 4
      funext k
      exact rfO_same h (hv k).2
    | _ => rfl
section STEP6
variable {K : KX} {M : Nat} {p : Program} {l : Launch} {e : Env} {R : Room} {s : State} {m : MethodId} {args : Array Value} {below : List Frame} {meth : Method} {c : Code} {Q : State → Prop} {S0 : SS} {ρ0 ρ' : OId → Nat}
variable {ρ : OId → Nat} {H H0 H1 : Heap} {locs locs1 : List Loc} {ls : Array Slot} {L : List (Option AV)} {L2 : List (Nat × AV)} {St : List AV} {S S' : SS} {pc n : Nat} {z : Int} {r : Nat × Nat × Nat × Nat}
/-- a run's point seen from another heap and naming, where what was there has kept its names -/
theorem Fs.move (F : Fs K M S0 ρ0 H0 ρ H locs ls L L2 St S) (hP : Pic K ρ' S' H1) (hW : WF K S') (hS : va_S (xA K) H0 H1 locs1) (hc : cel S ≤ cel S') (hs : slo S ≤ slo S') (hl : ∀ o ∈ lv S, o ∈ lv S' ∧ ρ' o = ρ o) : Fs K M S0 ρ0 H0 ρ' H1 locs1 ls L L2 St S' ∧ St.map (av K ρ') = St.map (av K ρ) := by
  obtain ⟨⟨-, -, -, f1, f2, f3⟩, ⟨g1, g2, g3, g4⟩, g5⟩ := F
  have hm : ∀ o ∈ lv S, o ∈ lv S' := fun o ho => (hl o ho).1
  have hr : ∀ o ∈ lv S, ρ' o = ρ o := fun o ho => (hl o ho).2
  refine ⟨⟨⟨hP, hW, hS, Nat.le_trans f1 hc, Nat.le_trans f2 hs, fun o ho => ⟨hm o (f3 o ho).1, (hr o (f3 o ho).1).trans (f3 o ho).2⟩⟩, ⟨⟨g1.1, g1.2.1, fun q hq => g1.2.2 q ?_⟩, g2, fun v hv => ⟨(g3 v hv).1.mono hm, (g3 v hv).2⟩, fun q hq => ⟨(g4 q hq).1.mono hm, (g4 q hq).2⟩⟩, fun v hv => (g5 v hv).mono hm⟩, ?_⟩
  · rcases lvl_mem.mp hq with ⟨v, h1, h2⟩ | ⟨v, h1, h2⟩
    · exact lvl_mem.mpr (Or.inl ⟨v, h1, h2.trans (av_same hr (g3 v (List.mem_of_getElem? h1)).1)⟩)
    · exact lvl_mem.mpr (Or.inr ⟨v, h1, h2.trans (av_same hr (g4 _ h1).1)⟩)
  · exact List.map_congr_left fun v hv => av_same hr (g5 v hv)
theorem lv_mk {o : OId} {nx9 n : Nat} {ns : List OId} : lv (mk S o nx9 ns n) = lv S ++ [o] := rfl
/-- an object more, with what lies in its whole numbers -/
theorem Fs.allocI {o : OId} {I9 : OId → Nat → Int32} {nx9 n q : Nat} {ns : List OId} {ee : va_E} (F : Fs K M S0 ρ0 H0 ρ H locs ls L L2 St S) (hro : isRo o = false) (hf : o ∉ lv S) (hn : nxt S ≤ nx9) (hn2 : (o.1 < 2 ∧ o.2.2 = 2 ∨ o.1 = 60) → o.2.1 < nx9) (hns : ∀ x ∈ ns, x ∈ S.2.2.2.2.2.1) (hI : ∀ x, x ≠ o → I9 x = S.1 x)
    (hP : va_P (xD K) vwCl (wsO K ρ S ++ [(q, ee)]) H1) (hD : va_D (xA K) (wsO K ρ S ++ [(q, ee)])) (hS : va_S (xA K) H0 H1 locs1) (he : ∀ ρ', elem K ρ' (I9, (mk S o nx9 ns n).2) o = ee) : ∃ ρ', Fs K M S0 ρ0 H0 ρ' H1 locs1 ls L L2 (aR o :: St) (I9, (mk S o nx9 ns n).2) ∧ ((aR o :: St : List AV).map (av K ρ')) = .ref q :: St.map (av K ρ) := by
  have F2 := F
  obtain ⟨⟨-, ⟨w1, w2, w3, w4, w5, w6⟩, -⟩, -⟩ := F2
  refine ⟨fun x => if x = o then q else ρ x, ?_⟩
  generalize hρ : (fun x => if x = o then q else ρ x) = ρ'
  have r1 : ∀ x ∈ lv S, ρ' x = ρ x := fun x hx => by
    rw [← hρ]
    exact if_neg fun (z : x = o) => hf (z ▸ hx)
  have r2 : ρ' o = q := by
    rw [← hρ]
    exact if_pos rfl
  have hm : ∀ x ∈ lv S, x ∈ lv (I9, (mk S o nx9 ns n).2) := fun x hx => List.mem_append_left _ hx
  have ews : wsO K ρ' (I9, (mk S o nx9 ns n).2) = wsO K ρ S ++ [(q, ee)] := by
    unfold wsO
    rw [show lv (I9, (mk S o nx9 ns n).2) = lv S ++ [o] from rfl, List.map_append]
    congr 1
    · refine List.map_congr_left fun x hx => ?_
      have hne : x ≠ o := fun z => hf (z ▸ hx)
      rw [r1 x hx, elem_congr (S' := (I9, (mk S o nx9 ns n).2)) (S := S) (hI x hne) (setRowV_ne hne) (setRowV_ne hne), elem_same r1 (w2 x hx) (fun k => ⟨(w4 x hx k).1, (w4 x hx k).2.1⟩)]
    · show [(ρ' o, elem K ρ' (I9, (mk S o nx9 ns n).2) o)] = [(q, ee)]
      rw [r2, he]
  have hW : WF K (I9, (mk S o nx9 ns n).2) := by
    refine ⟨?_, ?_, ?_, ?_, w5, fun x hx => w6 x (hns x hx)⟩
    · rw [show lv (I9, (mk S o nx9 ns n).2) = lv S ++ [o] from rfl, List.nodup_append]
      refine ⟨w1, List.nodup_cons.mpr ⟨List.not_mem_nil, List.nodup_nil⟩, fun a ha b hb => ?_⟩
      rw [List.mem_singleton.mp hb]
      exact fun z => hf (z ▸ ha)
    · intro x hx
      rcases List.mem_append.mp hx with h | h
      · exact w2 x h
      · rw [List.mem_singleton.mp h]; exact hro
    · intro x hx hq
      rcases List.mem_append.mp hx with h | h
      · exact Nat.lt_of_lt_of_le (w3 x h hq) hn
      · rw [List.mem_singleton.mp h] at hq ⊢; exact hn2 hq
    · intro x hx k
      rcases List.mem_append.mp hx with h | h
      · have hne : x ≠ o := fun z => hf (z ▸ h)
        have h4 := w4 x h k
        show okA K _ (setRowV S.2.1 o (fun _ => dfV o) x k) ∧ refOk K _ x (setRowV S.2.2.1 o (fun _ => aN) x k)
        rw [setRowV_ne hne, setRowV_ne hne]
        exact ⟨h4.1.mono hm, h4.2.1.mono hm, h4.2.2⟩
      · rw [List.mem_singleton.mp h]
        show okA K _ (setRowV S.2.1 o (fun _ => dfV o) o k) ∧ refOk K _ o (setRowV S.2.2.1 o (fun _ => aN) o k)
        unfold setRowV
        rw [if_pos rfl, if_pos rfl]
        refine ⟨?_, okA_inl, fun _ => Or.inl rfl⟩
        unfold dfV
        split <;> exact okA_inl
  obtain ⟨F3, e3⟩ := F.move (ρ' := ρ') (S' := (I9, (mk S o nx9 ns n).2)) (H1 := H1) (locs1 := locs1) ⟨by rw [ews]; exact hP, by rw [ews]; exact hD⟩ hW hS (Nat.le_succ _) (Nat.le_add_right _ _) (fun x hx => ⟨hm x hx, r1 x hx⟩)
  refine ⟨F3.stk (ok_c (okA_inr (Or.inl (List.mem_append_right _ (List.mem_singleton.mpr rfl)))) F3.2.2), ?_⟩
  rw [List.map_cons, e3, av_ref (isRo_48 hro), ad_live hro, r2]
/-- an object more -/
theorem Fs.alloc {o : OId} {nx9 n q : Nat} {ns : List OId} {ee : va_E} (F : Fs K M S0 ρ0 H0 ρ H locs ls L L2 St S) (hro : isRo o = false) (hf : o ∉ lv S) (hn : nxt S ≤ nx9) (hn2 : (o.1 < 2 ∧ o.2.2 = 2 ∨ o.1 = 60) → o.2.1 < nx9) (hns : ∀ x ∈ ns, x ∈ S.2.2.2.2.2.1)
    (hP : va_P (xD K) vwCl (wsO K ρ S ++ [(q, ee)]) H1) (hD : va_D (xA K) (wsO K ρ S ++ [(q, ee)])) (hS : va_S (xA K) H0 H1 locs1) (he : ∀ ρ', elem K ρ' (mk S o nx9 ns n) o = ee) : ∃ ρ', Fs K M S0 ρ0 H0 ρ' H1 locs1 ls L L2 (aR o :: St) (mk S o nx9 ns n) ∧ ((aR o :: St : List AV).map (av K ρ')) = .ref q :: St.map (av K ρ) :=
  F.allocI (I9 := (mk S o nx9 ns n).1) hro hf hn hn2 hns (fun x hx => setRow_ne hx) hP hD hS he
theorem mkC_spec {o : OId} {k : Nat} (hW : WF K S) (h : mkC S k = some (o, S')) : ∃ nx9 ns, S' = mk S o nx9 ns (nfl k) ∧ kOf o = .inl k ∧ isRo o = false ∧ o ∉ lv S ∧ nxt S ≤ nx9 ∧ ((o.1 < 2 ∧ o.2.2 = 2 ∨ o.1 = 60) → o.2.1 < nx9) ∧ (∀ x ∈ ns, x ∈ S.2.2.2.2.2.1) ∧ k ≠ 3 := by
  unfold mkC at h
  split at h
  · rename_i x ns hq
    split at h
    · rename_i hok
      simp only [Option.some.injEq, Prod.mk.injEq] at h
      obtain ⟨rfl, rfl⟩ := h
      unfold nmOk at hok
      simp only [Bool.and_eq_true, decide_eq_true_eq, Bool.not_eq_true', ne_eq] at hok
      obtain ⟨⟨⟨⟨h1, h2⟩, h3⟩, h4⟩, h5⟩ := hok
      refine ⟨_, ns, rfl, h1, h2, h5, Nat.le_refl _, fun z => z.elim (fun a => absurd a h3) (fun a => absurd a h4), fun y hy => by rw [hq]; exact List.mem_cons_of_mem _ hy, fun z => ?_⟩
      exact hW.2.2.2.2.2 x (by rw [hq]; exact List.mem_cons_self) (z ▸ h1)
    · cases h
  · rename_i hq
    split at h
    · rename_i hk
      simp only [Option.some.injEq, Prod.mk.injEq] at h
      obtain ⟨rfl, rfl⟩ := h
      have hk01 : k = 0 ∨ k = 1 := by omega
      refine ⟨_, [], rfl, ?_, ?_, ?_, Nat.le_succ _, fun _ => Nat.lt_succ_self _, fun y hy => absurd hy List.not_mem_nil, by omega⟩
      · rcases hk01 with rfl | rfl <;> rfl
      · rcases hk01 with rfl | rfl <;> rfl
      · intro z
        exact Nat.lt_irrefl _ (hW.2.2.1 _ z (Or.inl ⟨hk, rfl⟩))
    · cases h
theorem mkA_spec {o : OId} {ty : FieldType} {k : Nat} (hW : WF K S) (h : mkA S ty k = some (o, S')) : ∃ nx9 ns, S' = mk S o nx9 ns k ∧ kOf o = .inr (ty, k) ∧ isRo o = false ∧ o ∉ lv S ∧ nxt S ≤ nx9 ∧ ((o.1 < 2 ∧ o.2.2 = 2 ∨ o.1 = 60) → o.2.1 < nx9) ∧ (∀ x ∈ ns, x ∈ S.2.2.2.2.2.1) := by
  unfold mkA at h
  split at h
  · rename_i hk
    subst hk
    simp only [Option.some.injEq, Prod.mk.injEq] at h
    obtain ⟨rfl, rfl⟩ := h
    refine ⟨_, _, rfl, rfl, rfl, ?_, Nat.le_succ _, fun _ => Nat.lt_succ_self _, fun y hy => hy⟩
    intro z
    exact Nat.lt_irrefl _ (hW.2.2.1 _ z (Or.inr rfl))
  · split at h
    · rename_i x ns hq
      split at h
      · rename_i hok
        simp only [Option.some.injEq, Prod.mk.injEq] at h
        obtain ⟨rfl, rfl⟩ := h
        unfold nmOk at hok
        simp only [Bool.and_eq_true, decide_eq_true_eq, Bool.not_eq_true', ne_eq] at hok
        obtain ⟨⟨⟨⟨h1, h2⟩, h3⟩, h4⟩, h5⟩ := hok
        exact ⟨_, ns, rfl, h1, h2, h5, Nat.le_refl _, fun z => z.elim (fun a => absurd a h3) (fun a => absurd a h4), fun y hy => by rw [hq]; exact List.mem_cons_of_mem _ hy⟩
      · cases h
    · split at h
      · rename_i hok
        simp only [Option.some.injEq, Prod.mk.injEq] at h
        obtain ⟨rfl, rfl⟩ := h
        unfold nmOk at hok
        simp only [Bool.and_eq_true, decide_eq_true_eq, Bool.not_eq_true', ne_eq] at hok
        obtain ⟨⟨⟨⟨h1, h2⟩, h3⟩, h4⟩, h5⟩ := hok
        exact ⟨_, [], rfl, h1, h2, h5, Nat.le_refl _, fun z => z.elim (fun a => absurd a h3) (fun a => absurd a h4), fun y hy => absurd hy List.not_mem_nil⟩
      · cases h
end STEP6
