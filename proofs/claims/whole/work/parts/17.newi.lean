/-! SOUNDNESS: new, newarray, anewarray -/
theorem sk_le : ∀ c, c < 13 → ∀ k, k < nfl c → sk c k ≤ 4 := by decide +kernel
def instZ : List Nat := [1420, 1421, 0, 0, 1422, 1423, 1424, 1425, 1426, 1427, 1428, 1429, 1430]
def initZ : List Nat := [1042, 568, 0, 0, 547, 556, 559, 553, 562, 565, 550, 544, 1136]
theorem inst_ok : ∀ a, 0 < nfl a → wAt (instZ.getD a 0) = some (.instantiable (clC a).1 (nfl a)) ∧ wAt (initZ.getD a 0) = some (.initialized (clC a).1)
  | 0, _ => ⟨rfl, rfl⟩
  | 1, _ => ⟨rfl, rfl⟩
  | 2, h => absurd h (by decide)
  | 3, h => absurd h (by decide)
  | 4, _ => ⟨rfl, rfl⟩
  | 5, _ => ⟨rfl, rfl⟩
  | 6, _ => ⟨rfl, rfl⟩
  | 7, _ => ⟨rfl, rfl⟩
  | 8, _ => ⟨rfl, rfl⟩
  | 9, _ => ⟨rfl, rfl⟩
  | 10, _ => ⟨rfl, rfl⟩
  | 11, _ => ⟨rfl, rfl⟩
  | 12, _ => ⟨rfl, rfl⟩
  | q + 13, h => absurd (nfl_lt h) (by omega)
theorem dv_sk {a k : Nat} (h : k < nfl a) : (sk a k = 0 ∨ sk a k = 3 ∨ sk a k = 4 → defaultValue (tyC a k) = .int 0) ∧ (sk a k = 1 ∨ sk a k = 2 → defaultValue (tyC a k) = .null) := by
  obtain ⟨h0, h3, h4, h1, h2⟩ := sk_ty a (nfl_lt h) k h
  have hr : ∀ t, refT t = true → defaultValue t = .null := by
    intro t ht
    cases t <;> first | rfl | cases ht
  refine ⟨?_, ?_⟩
  · rintro (q | q | q)
    · rw [h0 q]; rfl
    · rw [h3 q]; rfl
    · rw [h4 q]; rfl
  · rintro (q | q)
    · exact hr _ (h1 q)
    · exact hr _ (h2 q)
theorem fget_sk {S : SS} {c k : Nat} {o : OId} (hc : c = 0 → ¬ o.2.2 = 1) : fget S c k o = (match sk c k with | 0 => aI (S.1 o k) | 1 => S.2.2.1 o k | 2 => S.2.1 o k | 3 => aI (bb (S.1 o k)) | _ => aI (by8 (S.1 o k))) := by
  unfold fget
  split
  · rw [if_neg (hc rfl)]
    rfl
  · rfl
theorem range_getD {n j : Nat} {f : Nat → Value} (h : j < n) : vp_V ((List.range n).map f) j = f j := by
  unfold vp_V
  rw [List.getD_eq_getElem?_getD, List.getElem?_map, List.getElem?_range h]
  rfl
theorem mk_V {S : SS} {o : OId} {nx9 n : Nat} {ns : List OId} {k : Nat} : (mk S o nx9 ns n).1 o k = 0 ∧ (mk S o nx9 ns n).2.1 o k = dfV o ∧ (mk S o nx9 ns n).2.2.1 o k = aN := by
  refine ⟨?_, ?_, ?_⟩
  · show setRow S.1 o (fun _ => 0) o k = 0
    unfold setRow
    exact if_pos rfl
  · show setRowV S.2.1 o (fun _ => dfV o) o k = dfV o
    unfold setRowV
    exact if_pos rfl
  · show setRowV S.2.2.1 o (fun _ => aN) o k = aN
    unfold setRowV
    exact if_pos rfl
theorem elem_new {K : KX} {ρ : OId → Nat} {S : SS} {o : OId} {a nx9 n : Nat} {ns : List OId} (hk : kOf o = .inl a) (hr : isRo o = false) : elem K ρ (mk S o nx9 ns n) o = .inr (a, (List.range (nfl a)).map fun k => defaultValue (tyC a k)) := by
  rw [elem_obj hk]
  congr 2
  unfold elF
  refine List.map_congr_left fun k hk9 => ?_
  have hkn := List.mem_range.mp hk9
  obtain ⟨v1, v2, v3⟩ := mk_V (S := S) (o := o) (nx9 := nx9) (n := n) (ns := ns) (k := k)
  rw [fget_sk (ro_0 hk hr), v1, v2, v3]
  have hd : dfV o = aN := by
    unfold dfV
    rw [hk]
  rw [hd]
  obtain ⟨d1, d2⟩ := dv_sk hkn
  have hle := sk_le a (nfl_lt hkn) k hkn
  rcases (by omega : sk a k = 0 ∨ sk a k = 1 ∨ sk a k = 2 ∨ sk a k = 3 ∨ sk a k = 4) with q | q | q | q | q
  · rw [q, d1 (Or.inl q)]; rfl
  · rw [q, d2 (Or.inl q)]; rfl
  · rw [q, d2 (Or.inr q)]; rfl
  · rw [q, d1 (Or.inr (Or.inl q))]; rfl
  · rw [q, d1 (Or.inr (Or.inr q))]; rfl
theorem arr_cls {D : va_G} {cl : List vw_C} {tys : List (ClassId × FieldType)} {s : State} {cA c0 : ClassId} {ty : FieldType} {t0 : Nat} (h : va_K D cl (tys ++ [(cA, ty)]) s) (ht : tys[t0]? = some (c0, ty)) : cA = c0 := by
  have h1 := (h.2 tys.length (cA, ty) (by rw [List.getElem?_append_right (Nat.le_refl _), Nat.sub_self]; rfl)).2
  have h2 := (h.2 t0 (c0, ty) (by rw [List.getElem?_append_left (List.getElem?_eq_some_iff.mp ht).1]; exact ht)).2
  have key : ∀ {x : ClassId} {t : FieldType}, va_RA s x t → s.vm.findClass ("[" ++ t.toString) = some x := by
    intro x t hx
    cases t with
    | object C => obtain ⟨_, _, _, _, _, h9⟩ := hx; exact h9
    | _ => exact hx
  exact Option.some.inj ((key h1).symm.trans (key h2))
section STEP7
variable {K : KX} {M : Nat} {p : Program} {l : Launch} {e : Env} {R : Room} {s : State} {m : MethodId} {args : Array Value} {below : List Frame} {meth : Method} {c : Code} {Q : State → Prop} {S0 : SS} {ρ0 ρ' : OId → Nat}
variable {ρ : OId → Nat} {H H0 H1 : Heap} {locs locs1 : List Loc} {ls : Array Slot} {L : List (Option AV)} {L2 : List (Nat × AV)} {St : List AV} {S S' : SS} {pc n : Nat} {z : Int} {r : Nat × Nat × Nat × Nat}
theorem Cx.hA (C0 : Cx K M p l s m meth c) : ∀ q, s.heap.size ≤ q → xA K q := fun q h => Nat.le_trans C0.2.2.2.2.1.2.2.1 h
theorem sub_1 {a b k : Nat} (h : b ≤ a) : a + k - b = a - b + k := by omega
theorem g_new {i a zz : Nat} {o : OId} (C0 : Cx K M p l s m meth c) (hd : decode (mtC M) pc = .ok (.new i, 3)) (ha : 0 < nfl a) (hm : mkC S a = some (o, S')) (hw : wAt zz = some (.classLink (mtY M).cls i (clC a).1)) (hcells : cel S' - cel S0 ≤ R.cells) (hslots : slo S' - slo S0 ≤ R.slots) (k : Gd K M p l e R s m args below meth c Q S0 ρ0 (pc + 3, L, L2, aR o :: St, S')) : Gd K M p l e R s m args below meth c Q S0 ρ0 (pc, L, L2, St, S) := by
  intro ρ H locs ls F
  obtain ⟨nx9, ns, rfl, hk, hro, hf, hn, hn2, hns, -⟩ := mkC_spec F.1.2.1 hm
  obtain ⟨hc1, hc2, hc3, hc4, hc5⟩ := cl_ok a ha
  obtain ⟨hi1, hi2⟩ := inst_ok a ha
  have hcl : vwCl[a]? = some ((clC a).1, (clC a).2.1, nfl a) := by rw [hc1, ← hc2]
  have e1 : cel (mk S o nx9 ns (nfl a)) - cel S0 = cel S - cel S0 + 1 := sub_1 F.1.2.2.2.1
  have e2 : slo (mk S o nx9 ns (nfl a)) - slo S0 = slo S - slo S0 + nfl a := sub_1 F.1.2.2.2.2.1
  rw [e1] at hcells
  rw [e2] at hslots
  refine va_new (ci := a) C0.1 C0.2.1 (C0.ts args) hc5 (tyC a) hc3 C0.2.2.2.1 (C0.w hw args) (C0.w hi1 args) (C0.w hi2 args) C0.vk F.1.1.1 F.1.1.2 F.1.2.2.1 C0.hA hcl (fs := (List.range (nfl a)).map fun k => defaultValue (tyC a k)) (fun j hj => (range_getD (f := fun k => defaultValue (tyC a k)) hj).symm) hcells hslots hd fun q H1 hP1 hD1 hS1 => ?_
  obtain ⟨ρ', F', eS⟩ := F.alloc hro hf hn hn2 hns hP1 hD1 hS1 (fun ρ' => elem_new hk hro)
  have kk := k ρ' H1 locs ls F'
  rw [e1, e2] at kk
  show W p l e R s m args below meth c H1 locs _ _ Q (F0 m (pc + 3) ls (.ref q :: St.map (av K ρ)))
  rw [← eS]
  exact kk
def dvT (ty : FieldType) : AV := match ty with
  | .long => aL 0
  | .double => aD 0
  | _ => aN
def nwA (ty : FieldType) : VA2 := match ty with
  | .long => .inr (.inl (fun _ => 0))
  | .double => .inr (.inr (.inr (.inl (fun _ => 0))))
  | .object _ => .inr (.inr (.inr (.inr (fun _ => none))))
  | _ => .inl (fun _ => 0)
theorem elA_new {K : KX} {ρ : OId → Nat} {S : SS} {o : OId} {nx9 n n9 : Nat} {ns : List OId} {ty : FieldType} (hk : kOf o = .inr (ty, n9)) : elem K ρ (mk S o nx9 ns n) o = .inl (xt K ty, n9, nwA ty) := by
  rw [elem_arr hk]
  congr 3
  have hV := fun k => mk_V (S := S) (o := o) (nx9 := nx9) (n := n) (ns := ns) (k := k)
  have hd : dfV o = dvT ty := by
    unfold dfV
    rw [hk]
    cases ty <;> rfl
  cases ty with
  | long =>
    show (Sum.inr (Sum.inl (fun k => toL ((mk S o nx9 ns n).2.1 o k))) : VA2) = _
    congr 2
    funext k
    rw [(hV k).2.1, hd]; rfl
  | double =>
    show (Sum.inr (Sum.inr (Sum.inr (Sum.inl (fun k => toD ((mk S o nx9 ns n).2.1 o k))))) : VA2) = _
    congr 4
    funext k
    rw [(hV k).2.1, hd]; rfl
  | object C =>
    show (Sum.inr (Sum.inr (Sum.inr (Sum.inr (fun k => rfO K ρ ((mk S o nx9 ns n).2.2.1 o k))))) : VA2) = _
    congr 4
    funext k
    rw [(hV k).2.2]; rfl
  | byte =>
    show (Sum.inl (fun k => by8 ((mk S o nx9 ns n).1 o k)) : VA2) = _
    congr 1
    funext k
    rw [(hV k).1]; rfl
  | boolean =>
    show (Sum.inl (fun k => bb ((mk S o nx9 ns n).1 o k)) : VA2) = _
    congr 1
    funext k
    rw [(hV k).1]; rfl
  | _ =>
    show (Sum.inl (fun k => (mk S o nx9 ns n).1 o k) : VA2) = _
    congr 1
    funext k
    rw [(hV k).1]
theorem g_newarray {at9 : ArrayType} {n9 : Int32} {o : OId} (C0 : Cx K M p l s m meth c) (hd : decode (mtC M) pc = .ok (.newarray at9, 2)) (h0 : ¬ n9 < 0) (h1 : ¬ 65536 < n9.toNatClampNeg) (hm : mkA S (arT at9) n9.toNatClampNeg = some (o, S')) (hcells : cel S' - cel S0 ≤ R.cells) (hslots : slo S' - slo S0 ≤ R.slots) (k : Gd K M p l e R s m args below meth c Q S0 ρ0 (pc + 2, L, L2, aR o :: St, S')) : Gd K M p l e R s m args below meth c Q S0 ρ0 (pc, L, L2, aI n9 :: St, S) := by
  intro ρ H locs ls F
  obtain ⟨nx9, ns, rfl, hk, hro, hf, hn, hn2, hns⟩ := mkA_spec F.1.2.1 hm
  have e1 : cel (mk S o nx9 ns n9.toNatClampNeg) - cel S0 = cel S - cel S0 + 1 := sub_1 F.1.2.2.2.1
  have e2 : slo (mk S o nx9 ns n9.toNatClampNeg) - slo S0 = slo S - slo S0 + n9.toNatClampNeg := sub_1 F.1.2.2.2.2.1
  rw [e1] at hcells
  rw [e2] at hslots
  have fin : ∀ (t0 : Nat) (ty : FieldType) (a0 : vp_A), newarray.typeOf at9 = ty → (xTy K)[t0]? = some (xt K ty, ty) → (Cond.arrayClass (newarray.typeOf at9)).before args s = true → (∀ cA : ClassId, vp_cell cA a0 = arrV cA n9.toNatClampNeg (fun _ => defaultValue ty)) → n9.toNatClampNeg * componentBytes ty ≤ 536870912 → (∀ ρ', elem K ρ' (mk S o nx9 ns n9.toNatClampNeg) o = .inl (xt K ty, a0)) → W p l e R s m args below meth c H locs (cel S - cel S0) (slo S - slo S0) Q (F0 m pc ls (.int n9 :: St.map (av K ρ))) := by
    intro t0 ty a0 hty ht0 harr ha hby hel
    refine va_newa C0.1 C0.2.1 harr hty C0.vk F.1.1.1 F.1.1.2 F.1.2.2.1 C0.hA ha h0 rfl hby hcells hslots hd fun q cA H1 hK1 hP1 hD1 hS1 => ?_
    have hcA : cA = xt K ty := arr_cls hK1 ht0
    subst hcA
    obtain ⟨ρ', F', eS⟩ := F.pop.alloc hro hf hn hn2 hns hP1 hD1 hS1 hel
    have kk := k ρ' H1 locs ls F'
    rw [e1, e2] at kk
    rw [← eS]
    exact kk
  have hty : newarray.typeOf at9 = arT at9 := rfl
  rcases kOf_arr hk with q | q | q | q | q | q | q
  · refine fin 0 .int (n9.toNatClampNeg, .inl (fun _ => 0)) (hty.trans q) rfl ?_ (fun _ => rfl) (by show _ * 4 ≤ _; omega) (fun ρ' => by rw [q] at hk; exact elA_new hk)
    rw [hty, q]; exact C0.w (i := 1437) rfl args
  · refine fin 1 .long (n9.toNatClampNeg, .inr (.inl (fun _ => 0))) (hty.trans q) rfl ?_ (fun _ => rfl) (by show _ * 8 ≤ _; omega) (fun ρ' => by rw [q] at hk; exact elA_new hk)
    rw [hty, q]; exact C0.w (i := 1439) rfl args
  · refine fin 2 .byte (n9.toNatClampNeg, .inl (fun _ => 0)) (hty.trans q) rfl ?_ (fun _ => rfl) (by show _ * 1 ≤ _; omega) (fun ρ' => by rw [q] at hk; exact elA_new hk)
    rw [hty, q]; exact C0.w (i := 1440) rfl args
  · refine fin 3 .boolean (n9.toNatClampNeg, .inl (fun _ => 0)) (hty.trans q) rfl ?_ (fun _ => rfl) (by show _ * 1 ≤ _; omega) (fun ρ' => by rw [q] at hk; exact elA_new hk)
    rw [hty, q]; exact C0.w (i := 1438) rfl args
  · refine fin 4 .double (n9.toNatClampNeg, .inr (.inr (.inr (.inl (fun _ => 0))))) (hty.trans q) rfl ?_ (fun _ => rfl) (by show _ * 8 ≤ _; omega) (fun ρ' => by rw [q] at hk; exact elA_new hk)
    rw [hty, q]; exact C0.w (i := 1441) rfl args
  · exfalso
    cases at9 <;> cases q
  · exfalso
    cases at9 <;> cases q
end STEP7
