/-! SOUNDNESS: the library's own methods, by its contracts -/
theorem cats (l : List Value) : (l.map fun v => v.category).sum ≤ 2 * l.length := by
  induction l with
  | nil => exact Nat.le_refl _
  | cons a r ih =>
    rw [List.map_cons, List.sum_cons, List.length_cons]
    have h : a.category ≤ 2 := by cases a <;> simp [Value.category]
    omega
theorem cats4 {K : KX} {ρ : OId → Nat} {St : List AV} (h : St.length ≤ 4) : ((St.map (av K ρ)).map fun v => v.category).sum ≤ 8 := by
  have h1 := cats (St.map (av K ρ))
  rw [List.length_map] at h1
  omega
theorem va_T_ext {ty : FieldType} {t N : Nat} {f g : Nat → Value} {A : Nat → Prop} {U : State} {H : Heap} (h : va_T ty t N f A U H) (he : ∀ j, j < N → f j = g j) : va_T ty t N g A U H := by
  obtain ⟨cell, h1, h2, h3, h4, h5, h6, h7⟩ := h
  exact ⟨cell, h1, h2, h3, h4, h5, fun j hj => by rw [← he j hj]; exact h6 j hj, h7⟩
theorem roB_8 : ∀ o, (o = 45 ∨ o = 46) → ∀ j, j < 100 → by8 (roB (o, 0, 0) j) = roB (o, 0, 0) j ∧ fits .byte (.int (roB (o, 0, 0) j)) = true := by
  rintro o (rfl | rfl) <;> decide +kernel
theorem roB_47 (i j : Nat) : by8 (roB (47, i, 0) j) = roB (47, i, 0) j ∧ fits .byte (.int (roB (47, i, 0) j)) = true := by
  unfold roB
  split <;> rename_i h
  · cases h
  · cases h
  · split <;> (by_cases hj : j = 0 <;> simp only [hj, if_true, if_false] <;> exact ⟨rfl, rfl⟩)
/-- a constant's bytes -/
theorem ro_T {K : KX} {ρ : OId → Nat} {s : State} {o : OId} {n : Nat} (E : EnvU K s s.heap) (ho : roK K o) (hk : kOf o = .inr (.byte, n)) : va_T .byte (ad K ρ o) n (fun j => .int (roB o j)) (xA K) s s.heap ∧ (∀ j, j < n → by8 (roB o j) = roB o j ∧ fits .byte (.int (roB o j)) = true) ∧ ∀ S : SS, agB S o = roB o := by
  obtain ⟨-, -, -, -, -, hstr, hT, hO, -⟩ := E
  rcases ho with rfl | rfl | rfl | ⟨i3, hi3, rfl⟩ | ⟨i3, hi3, rfl⟩ | rfl
  · cases hk
  · cases hk
    exact ⟨hT, roB_8 45 (Or.inl rfl), fun S => rfl⟩
  · cases hk
    exact ⟨hO, roB_8 46 (Or.inr rfl), fun S => rfl⟩
  · have hn : n = 2 := by cases hk; rfl
    subst hn
    have h4 := (hstr.1 i3 hi3).2.2.2
    rw [show ([2, 2, 2] : List Nat).getD i3 0 = 2 from by rcases (by omega : i3 = 0 ∨ i3 = 1 ∨ i3 = 2) with rfl | rfl | rfl <;> rfl] at h4
    refine ⟨va_T_ext h4 fun t h5 => ?_, fun j _ => roB_47 i3 j, fun S => rfl⟩
    rcases (by omega : i3 = 0 ∨ i3 = 1 ∨ i3 = 2) with rfl | rfl | rfl <;> rcases (by omega : t = 0 ∨ t = 1) with rfl | rfl <;> rfl
  · cases hk
  · cases hk
theorem fits_by8 (x : Int32) : fits .byte (.int (by8 x)) = true := pk_fb x
theorem cpy_i {f g h : Nat → Int32} {a b n : Nat} (hh : ∀ k, h k = va_cpy f g a b n k) : va_cpy f g a b n = h := by
  funext k
  exact (hh k).symm
theorem wd_cl5 : Cond.castable "[B" "java/lang/Cloneable" ∈ GB := tk_6 (List.mem_of_getElem? (i := 19) (by decide +kernel)) rfl
section STEP9
variable {K : KX} {M : Nat} {p : Program} {l : Launch} {e : Env} {R : Room} {s : State} {m : MethodId} {args : Array Value} {below : List Frame} {meth : Method} {c : Code} {Q : State → Prop} {S0 : SS} {ρ0 ρ' : OId → Nat}
variable {ρ : OId → Nat} {H H0 H1 : Heap} {locs locs1 : List Loc} {ls : Array Slot} {L : List (Option AV)} {L2 : List (Nat × AV)} {St : List AV} {S S' : SS} {pc n : Nat} {z : Int} {r : Nat × Nat × Nat × Nat}
theorem g_oinit {i zz : Nat} {o : OId} (C0 : Cx K M p l s m meth c) (hd : decode (mtC M) pc = .ok (.invokespecial i, 3)) (hw : wAt zz = some (.methodLink (mtY M).cls i Lib.objectInit)) (ho : ¬ o.1 = 48) (hR : 1 ≤ R.frames ∧ 100 ≤ R.locals) (k : Gd K M p l e R s m args below meth c Q S0 ρ0 (pc + 3, L, L2, [], S)) : Gd K M p l e R s m args below meth c Q S0 ρ0 (pc, L, L2, [aR o], S) := by
  intro ρ H locs ls F
  have kk := k ρ H locs ls F.pop
  show W p l e R s m args below meth c H locs _ _ Q (F0 m pc ls [av K ρ (aR o)])
  rw [av_ref ho]
  refine W.objInit (g := F0 m pc ls [.ref (ad K ρ o)]) (rest := []) C0.1 C0.2.1 C0.2.2.2.1 (C0.w hw args) (C0.w (i := 1431) rfl args) (C0.w (i := 1432) rfl args) rfl (F.lz C0).symm rfl hd hR.1 ?_ kk
  show 2 * 0 + 0 + 12 ≤ R.locals
  omega
theorem g_max {i zz : Nat} {x y : Int32} (C0 : Cx K M p l s m meth c) (hd : decode (mtC M) pc = .ok (.invokestatic i, 3)) (hw : wAt zz = some (.methodLink (mtY M).cls i Lib.Math.max.name)) (hR : 1 ≤ R.frames ∧ 100 ≤ R.locals) (hc : cel S - cel S0 ≤ R.cells) (hs : slo S - slo S0 ≤ R.slots) (hl : St.length ≤ 4) (k : Gd K M p l e R s m args below meth c Q S0 ρ0 (pc + 3, L, L2, aI (if x < y then y else x) :: St, S)) : Gd K M p l e R s m args below meth c Q S0 ρ0 (pc, L, L2, aI y :: aI x :: St, S) := by
  intro ρ H locs ls F
  have h8 := cats4 (K := K) (ρ := ρ) hl
  exact va_mmax C0.1 C0.2.1 (F.lz C0) C0.2.2.2.1 (C0.w hw args) (C0.w (i := 1446) rfl args) (C0.w (i := 1452) rfl args) (C0.w (i := 1447) rfl args) hR.1 (by omega) hc hs hd (k ρ H locs ls F.pop.pop.push)
theorem g_min {i zz : Nat} {x y : Int32} (C0 : Cx K M p l s m meth c) (hd : decode (mtC M) pc = .ok (.invokestatic i, 3)) (hw : wAt zz = some (.methodLink (mtY M).cls i Lib.Math.min.name)) (hR : 1 ≤ R.frames ∧ 100 ≤ R.locals) (hc : cel S - cel S0 ≤ R.cells) (hs : slo S - slo S0 ≤ R.slots) (hl : St.length ≤ 4) (k : Gd K M p l e R s m args below meth c Q S0 ρ0 (pc + 3, L, L2, aI (if y < x then y else x) :: St, S)) : Gd K M p l e R s m args below meth c Q S0 ρ0 (pc, L, L2, aI y :: aI x :: St, S) := by
  intro ρ H locs ls F
  have h8 := cats4 (K := K) (ρ := ρ) hl
  exact va_mmin C0.1 C0.2.1 (F.lz C0) C0.2.2.2.1 (C0.w hw args) (C0.w (i := 1448) rfl args) (C0.w (i := 1452) rfl args) (C0.w (i := 1449) rfl args) hR.1 (by omega) hc hs hd (k ρ H locs ls F.pop.pop.push)
theorem g_abs {i zz : Nat} {x : Int32} (C0 : Cx K M p l s m meth c) (hd : decode (mtC M) pc = .ok (.invokestatic i, 3)) (hw : wAt zz = some (.methodLink (mtY M).cls i Lib.Math.abs.name)) (hR : 1 ≤ R.frames ∧ 100 ≤ R.locals) (hc : cel S - cel S0 ≤ R.cells) (hs : slo S - slo S0 ≤ R.slots) (hl : St.length ≤ 4) (k : Gd K M p l e R s m args below meth c Q S0 ρ0 (pc + 3, L, L2, aI (if 0 ≤ x then x else 0 - x) :: St, S)) : Gd K M p l e R s m args below meth c Q S0 ρ0 (pc, L, L2, aI x :: St, S) := by
  intro ρ H locs ls F
  have h8 := cats4 (K := K) (ρ := ρ) hl
  exact va_mabs C0.1 C0.2.1 (F.lz C0) C0.2.2.2.1 (C0.w hw args) (C0.w (i := 1450) rfl args) (C0.w (i := 1452) rfl args) (C0.w (i := 1451) rfl args) hR.1 (by omega) hc hs hd (k ρ H locs ls F.pop.push)
theorem g_acopy {i zz : Nat} {s9 d9 : OId} {sp dp x : Int32} (C0 : Cx K M p l s m meth c) (hd : decode (mtC M) pc = .ok (.invokestatic i, 3)) (hw : wAt zz = some (.methodLink (mtY M).cls i arraycopyName)) (ha : acp S s9 sp d9 dp x = some S') (hR : 1 ≤ R.frames ∧ 100 ≤ R.locals) (hl : St.length ≤ 4) (k : Gd K M p l e R s m args below meth c Q S0 ρ0 (pc + 3, L, L2, St, S')) : Gd K M p l e R s m args below meth c Q S0 ρ0 (pc, L, L2, aI x :: aI dp :: aR d9 :: aI sp :: aR s9 :: St, S) := by
  intro ρ H locs ls F
  have h8 := cats4 (K := K) (ρ := ρ) hl
  have hw5 : nativeFrameWords "java/lang/System" "arraycopy" 5 = 7 := by decide
  have Fd := F.pop.pop
  have Fs9 := Fd.pop.pop
  show W p l e R s m args below meth c H locs _ _ Q (F0 m pc ls (.int x :: .int dp :: av K ρ (aR d9) :: .int sp :: av K ρ (aR s9) :: St.map (av K ρ)))
  obtain ⟨I, V, W9, G⟩ := S
  unfold acp at ha
  split at ha
  · rename_i a b hks hkd
    split at ha
    · rename_i hh
      obtain ⟨r1, r2, hne, h1, h2, h3, h4, h5⟩ := hh
      cases ha
      have hls : s9 ∈ G.1 := Fs9.live (Fs9.t1.1 s9 rfl) r1
      have hld : d9 ∈ G.1 := Fd.live (Fd.t1.1 d9 rfl) r2
      obtain ⟨js, hjs, hjsw⟩ := ws_at (K := K) (ρ := ρ) (S := (I, V, W9, G)) hls
      obtain ⟨jd, hjd, hjdw⟩ := ws_at (K := K) (ρ := ρ) (S := (I, V, W9, G)) hld
      rw [arr_e (K := K) (ρ := ρ) (S := (I, V, W9, G)) (x := .inl (fun k => I s9 k)) hks rfl] at hjsw
      rw [arr_e (K := K) (ρ := ρ) (S := (I, V, W9, G)) (x := .inl (fun k => I d9 k)) hkd rfl] at hjdw
      rw [av_ref (isRo_48 r1), ad_live r1, av_ref (isRo_48 r2), ad_live r2]
      refine va_copyi C0.1 C0.2.1 (F.lz C0) C0.2.2.2.1 (C0.w hw args) (C0.w (i := 1433) rfl args) (C0.w (i := 1434) rfl args) (C0.w (i := 1435) rfl args) C0.vk F.1.1.1 F.1.1.2 F.1.2.2.1 js jd 0 0 hjsw hjdw rfl rfl rfl h1 h2 h3 h4 h5 (fun _ _ => rfl) hR.1 (by rw [hw5]; omega) hd fun H1 locs1 hP1 hD1 hS1 => ?_
      have e9 : elem K ρ (setRow I d9 (va_cpy (I s9) (I d9) sp.toNatClampNeg dp.toNatClampNeg x.toNatClampNeg), V, W9, G) d9 = .inl (xt K .int, b, .inl (va_cpy (fun k => I s9 k) (fun k => I d9 k) sp.toNatClampNeg dp.toNatClampNeg x.toNatClampNeg)) := arr_e hkd (by
        show (Sum.inl (fun k => setRow I d9 (va_cpy (I s9) (I d9) sp.toNatClampNeg dp.toNatClampNeg x.toNatClampNeg) d9 k) : VA2) = _
        congr 1
        funext k
        unfold setRow
        rw [if_pos rfl])
      rw [← e9] at hP1 hD1
      exact k ρ H1 locs1 ls (Fs.upd Fs9.pop hjd (fun o' ho => setRow_ne ho) (fun _ _ => rfl) (fun _ _ => rfl) (F.1.2.1.2.2.2.1 d9 hld) hP1 hD1 hS1)
    · cases ha
  · rename_i a b hks hkd
    split at ha
    · rename_i hh
      obtain ⟨r2, hne, h1, h2, h3, h4, h5⟩ := hh
      cases ha
      have hld : d9 ∈ G.1 := Fd.live (Fd.t1.1 d9 rfl) r2
      obtain ⟨jd, hjd, hjdw⟩ := ws_at (K := K) (ρ := ρ) (S := (I, V, W9, G)) hld
      rw [arr_e (K := K) (ρ := ρ) (S := (I, V, W9, G)) (x := .inl (fun k => by8 (I d9 k))) hkd rfl] at hjdw
      have s48 : ¬ s9.1 = 48 := by
        intro z
        unfold kOf at hks
        rw [z] at hks
        cases hks
      rw [av_ref s48, av_ref (isRo_48 r2), ad_live r2]
      have fin : ∀ f : Nat → Int32, (∀ j, j < a → by8 (agB (I, V, W9, G) s9 j) = f j) → ∀ (H1 : Heap) (locs1 : List Loc), va_P (xD K) vwCl ((wsO K ρ (I, V, W9, G)).set jd (ρ d9, .inl (xt K .byte, b, .inl (va_cpy f (fun k => by8 (I d9 k)) sp.toNatClampNeg dp.toNatClampNeg x.toNatClampNeg)))) H1 → va_D (xA K) ((wsO K ρ (I, V, W9, G)).set jd (ρ d9, .inl (xt K .byte, b, .inl (va_cpy f (fun k => by8 (I d9 k)) sp.toNatClampNeg dp.toNatClampNeg x.toNatClampNeg)))) → va_S (xA K) s.heap H1 locs1 → W p l e R s m args below meth c H1 locs1 (cel (I, V, W9, G) - cel S0) (slo (I, V, W9, G) - slo S0) Q (F0 m (pc + 3) ls (St.map (av K ρ))) := by
        intro f hf H1 locs1 hP1 hD1 hS1
        have e9 : elem K ρ (setRow I d9 (va_cpy (agB (I, V, W9, G) s9) (I d9) sp.toNatClampNeg dp.toNatClampNeg x.toNatClampNeg), V, W9, G) d9 = .inl (xt K .byte, b, .inl (va_cpy f (fun k => by8 (I d9 k)) sp.toNatClampNeg dp.toNatClampNeg x.toNatClampNeg)) := arr_e hkd (by
          show (Sum.inl (fun k => by8 (setRow I d9 (va_cpy (agB (I, V, W9, G) s9) (I d9) sp.toNatClampNeg dp.toNatClampNeg x.toNatClampNeg) d9 k)) : VA2) = _
          congr 1
          funext k
          unfold setRow va_cpy
          rw [if_pos rfl, apply_ite by8]
          by_cases hkk : dp.toNatClampNeg ≤ k ∧ k < dp.toNatClampNeg + x.toNatClampNeg
          · rw [if_pos hkk, if_pos hkk]
            exact hf _ (by omega)
          · rw [if_neg hkk, if_neg hkk])
        rw [← e9] at hP1 hD1
        exact k ρ H1 locs1 ls (Fs.upd Fs9.pop hjd (fun o' ho => setRow_ne ho) (fun _ _ => rfl) (fun _ _ => rfl) (F.1.2.1.2.2.2.1 d9 hld) hP1 hD1 hS1)
      rcases Fs9.t1.1 s9 rfl with hls | hro
      · have r1 := F.1.2.1.2.1 s9 hls
        obtain ⟨js, hjs, hjsw⟩ := ws_at (K := K) (ρ := ρ) (S := (I, V, W9, G)) hls
        rw [arr_e (K := K) (ρ := ρ) (S := (I, V, W9, G)) (x := .inl (fun k => by8 (I s9 k))) hks rfl] at hjsw
        rw [ad_live r1]
        have e1 : ∀ j, agB (I, V, W9, G) s9 j = by8 (I s9 j) := by
          intro j
          unfold agB
          split <;> first | rfl | (rename_i h; unfold isRo at r1; rw [h] at r1; cases r1)
        exact va_copyi C0.1 C0.2.1 (F.lz C0) C0.2.2.2.1 (C0.w hw args) (C0.w (i := 1433) rfl args) (C0.w (i := 1434) rfl args) (C0.w (i := 1435) rfl args) C0.vk F.1.1.1 F.1.1.2 F.1.2.2.1 js jd 2 2 hjsw hjdw rfl rfl rfl h1 h2 h3 h4 h5 (fun _ _ => fits_by8 _) hR.1 (by rw [hw5]; omega) hd (fin _ (fun j _ => by rw [e1, by8_by8]))
      · obtain ⟨hT, h8b, hag⟩ := ro_T (ρ := ρ) C0.2.2.2.2.1 hro hks
        exact vk_copyt C0.1 C0.2.1 (F.lz C0) C0.2.2.2.1 (C0.w hw args) (C0.w (i := 1433) rfl args) (C0.w (i := 1434) rfl args) (C0.w (i := 1435) rfl args) C0.vk F.1.1.1 F.1.1.2 F.1.2.2.1 hT jd 2 hjdw rfl h1 h2 h3 h4 h5 (fun j hj => (h8b _ (by omega)).2) hR.1 (by rw [hw5]; omega) hd (fin _ (fun j hj => by rw [hag]; exact (h8b j hj).1))
    · cases ha
  · cases ha
theorem g_clone {i : Nat} {o o' : OId} (C0 : Cx K M p l s m meth c) (hown : (mtY M).cls = "java/util/Arrays" ∧ i = 310) (hd : decode (mtC M) pc = .ok (.invokevirtual i, 3)) (hk : kOf o = .inr (.byte, n)) (hro : isRo o = false) (hm : mkA S .byte n = some (o', S')) (hR : 1 ≤ R.frames ∧ 100 ≤ R.locals) (hl : St.length ≤ 4) (hcells : cel S' - cel S0 ≤ R.cells) (hslots : slo S' - slo S0 ≤ R.slots) (k : Gd K M p l e R s m args below meth c Q S0 ρ0 (pc + 3, L, L2, aR o' :: St, (setRow S'.1 o' (S.1 o), S'.2))) : Gd K M p l e R s m args below meth c Q S0 ρ0 (pc, L, L2, aR o :: St, S) := by
  intro ρ H locs ls F
  have h8 := cats4 (K := K) (ρ := ρ) hl
  obtain ⟨nx9, ns, rfl, hk', hro', hf, hn, hn2, hns⟩ := mkA_spec F.1.2.1 hm
  have e1 : cel (mk S o' nx9 ns n) - cel S0 = cel S - cel S0 + 1 := sub_1 F.1.2.2.2.1
  have e2 : slo (mk S o' nx9 ns n) - slo S0 = slo S - slo S0 + n := sub_1 F.1.2.2.2.2.1
  rw [e1] at hcells
  rw [e2] at hslots
  have hlive : o ∈ lv S := F.live (F.t1.1 o rfl) hro
  obtain ⟨j, hj, hjw⟩ := ws_at (K := K) (ρ := ρ) hlive
  rw [arr_e (K := K) (ρ := ρ) (S := S) (x := .inl (fun k => by8 (S.1 o k))) hk rfl] at hjw
  show W p l e R s m args below meth c H locs _ _ Q (F0 m pc ls (av K ρ (aR o) :: St.map (av K ρ)))
  rw [av_ref (isRo_48 hro), ad_live hro]
  have hc := C0.2.2.2.1
  rw [hown.1] at hc
  obtain ⟨-, rfl⟩ := hown
  refine va_clone C0.1 C0.2.1 (F.lz C0) hc (C0.w (i := 314) rfl args) (C0.w (i := 1442) rfl args) (C0.w (i := 1443) rfl args) (C0.w (i := 1444) rfl args) (C0.w (i := 1445) rfl args) (C0.gp _ wd_cl5 #[]) C0.vk F.1.1.1 F.1.1.2 F.1.2.2.1 C0.hA j 2 hjw rfl (C0.na (t0 := 2) rfl (fun C h => by cases h)) ?_ hR.1 (by omega) hcells hslots hd fun q H1 hK1 hP1 hD1 hS1 => ?_
  · intro i v hv
    rw [vp_cell_i] at hv
    unfold arrV at hv
    simp only [Array.getElem?_ofFn] at hv
    split at hv
    · cases hv; exact fits_by8 _
    · cases hv
  · obtain ⟨ρ', F', eS⟩ := F.pop.allocI (I9 := setRow (mk S o' nx9 ns n).1 o' (S.1 o)) hro' hf hn hn2 hns (fun x hx => (setRow_ne hx).trans (setRow_ne hx)) hP1 hD1 hS1 (fun ρ' => arr_e hk' (by
      show (Sum.inl (fun k => by8 (setRow (mk S o' nx9 ns n).1 o' (S.1 o) o' k)) : VA2) = _
      congr 1
      funext k
      unfold setRow
      rw [if_pos rfl]))
    have kk := k ρ' H1 locs ls F'
    have e1' : cel (setRow (mk S o' nx9 ns n).1 o' (S.1 o), (mk S o' nx9 ns n).2) - cel S0 = cel S - cel S0 + 1 := e1
    have e2' : slo (setRow (mk S o' nx9 ns n).1 o' (S.1 o), (mk S o' nx9 ns n).2) - slo S0 = slo S - slo S0 + n := e2
    rw [e1', e2'] at kk
    rw [← eS]
    exact kk
end STEP9
