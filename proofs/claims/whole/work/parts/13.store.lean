/-! SOUNDNESS: stores into fields, arrays, statics -/
theorem inB_in {i : Int32} {n : Nat} (h : inB i n = true) : vp_in i n := by
  unfold inB at h
  rw [Bool.and_eq_true, decide_eq_true_eq, decide_eq_true_eq] at h
  rintro (q | q)
  · exact h.1 q
  · exact Nat.lt_irrefl _ (Nat.lt_of_lt_of_le h.2 q)
theorem nar_ref {t : FieldType} {v : Value} (h : refT t = true) (hv : v = .null ∨ ∃ a, v = .ref a) : narrow t v = v ∧ fits t v = true := by
  rcases hv with rfl | ⟨a, rfl⟩ <;> cases t <;> first | exact ⟨rfl, rfl⟩ | cases h
theorem nar_bool {x : Int32} (h : x = 0 ∨ x = 1) : narrow .boolean (.int x) = .int x ∧ fits .boolean (.int x) = true := by
  rcases h with rfl | rfl <;> exact ⟨rfl, rfl⟩
theorem nar_byte {x : Int32} (h : by8 x = x) : narrow .byte (.int x) = .int x ∧ fits .byte (.int x) = true := by
  have h1 := pk_nb x
  have h2 := pk_fb x
  unfold by8 at h
  rw [h] at h1 h2
  exact ⟨h1, h2⟩
theorem range_set {n k : Nat} {f g : Nat → Value} {w : Value} (h : ∀ q, q < n → g q = if q = k then w else f q) : ((List.range n).map f).set k w = (List.range n).map g := by
  apply List.ext_getElem?
  intro q
  rw [List.getElem?_set, List.getElem?_map, List.length_map, List.length_range, List.getElem?_map]
  by_cases hqn : q < n
  · rw [List.getElem?_range hqn]
    show _ = some (g q)
    rw [h q hqn]
    by_cases he : k = q
    · rw [if_pos he, if_pos (he ▸ hqn), if_pos he.symm]
    · rw [if_neg he, if_neg (Ne.symm he)]
      rfl
  · rw [List.getElem?_eq_none (by simpa using hqn)]
    by_cases he : k = q
    · rw [if_pos he, if_neg (he ▸ hqn)]; rfl
    · rw [if_neg he]; rfl
theorem elF_set {K : KX} {ρ : OId → Nat} {S S' : SS} {o : OId} {a k : Nat} {w : AV} (h : ∀ q, q < nfl a → fget S' a q o = if q = k then w else fget S a q o) : (elF K ρ S o a).set k (av K ρ w) = elF K ρ S' o a := by
  unfold elF
  apply range_set
  intro q hq
  rw [h q hq]
  exact apply_ite (av K ρ) _ _ _
theorem vp_nar_bool {x : Int32} (h : x = 0 ∨ x = 1) : vp_nar .boolean x = x := by
  rcases h with rfl | rfl <;> rfl
section STEP3
variable {K : KX} {M : Nat} {p : Program} {l : Launch} {e : Env} {R : Room} {s : State} {m : MethodId} {args : Array Value} {below : List Frame} {meth : Method} {c : Code} {Q : State → Prop} {S0 : SS} {ρ0 : OId → Nat}
variable {ρ : OId → Nat} {H H0 H1 : Heap} {locs locs1 : List Loc} {ls : Array Slot} {L : List (Option AV)} {L2 : List (Nat × AV)} {St : List AV} {S : SS} {pc n : Nat} {z : Int} {r : Nat × Nat × Nat × Nat}
variable {I I' : OId → Nat → Int32} {V V' W9 W9' : OId → Nat → AV} {G : SG}
/-- one object has changed, on both sides -/
theorem Fs.upd {o : OId} {j : Nat} (F : Fs K M S0 ρ0 H0 ρ H locs ls L L2 St (I, V, W9, G)) (ho : G.1[j]? = some o) (h1 : ∀ o', o' ≠ o → I' o' = I o') (h2 : ∀ o', o' ≠ o → V' o' = V o') (h3 : ∀ o', o' ≠ o → W9' o' = W9 o')
    (hr : ∀ k, okA K G.1 (V' o k) ∧ refOk K G.1 o (W9' o k)) (hP : va_P (xD K) vwCl ((wsO K ρ (I, V, W9, G)).set j (ρ o, elem K ρ (I', V', W9', G) o)) H1) (hD : va_D (xA K) ((wsO K ρ (I, V, W9, G)).set j (ρ o, elem K ρ (I', V', W9', G) o))) (hS : va_S (xA K) H0 H1 locs1) : Fs K M S0 ρ0 H0 ρ H1 locs1 ls L L2 St (I', V', W9', G) := by
  obtain ⟨⟨-, hW, -, hc, hs, hl⟩, hL, hSt⟩ := F
  obtain ⟨w1, w2, w3, w4, w5⟩ := hW
  have e := ws_set (K := K) (ρ := ρ) (S := (I, V, W9, G)) (S' := (I', V', W9', G)) w1 ho rfl h1 h2 h3
  rw [e] at hP hD
  refine ⟨⟨⟨hP, hD⟩, ⟨w1, w2, w3, fun o' ho' k => ?_, w5⟩, hS, hc, hs, hl⟩, hL, hSt⟩
  by_cases he : o' = o
  · subst he
    exact hr k
  · have h := w4 o' ho' k
    show okA K G.1 (V' o' k) ∧ refOk K G.1 o' (W9' o' k)
    rw [h2 o' he, h3 o' he]
    exact h
theorem g_put {i a q9 nest zz : Nat} {o : OId} {w : AV} (C0 : Cx K M p l s m meth c) (hd : decode (mtC M) pc = .ok (.putfield i, 3)) (hk : kOf o = .inl a) (hro : isRo o = false) (hq : q9 < nfl a) (hw : wAt zz = some (fldW (mtY M).cls i a q9 nest))
    (hfin : ((clC a).2.1 q9).2.2.2 = false ∨ ((mtY M).name = "<init>" ∧ ((clC a).2.1 q9).1 = (mtY M).cls ∧ nest = 0))
    (h1 : ∀ o', o' ≠ o → I' o' = I o') (h2 : ∀ o', o' ≠ o → V' o' = V o') (h3 : ∀ o', o' ≠ o → W9' o' = W9 o')
    (hset : ∀ q, q < nfl a → fget (I', V', W9', G) a q o = if q = q9 then w else fget (I, V, W9, G) a q o)
    (hty : ∀ ρ, narrow (tyC a q9) (av K ρ w) = av K ρ w ∧ fits (tyC a q9) (av K ρ w) = true)
    (hr : (∀ k, okA K G.1 (V o k) ∧ refOk K G.1 o (W9 o k)) → okA K G.1 w → ∀ k, okA K G.1 (V' o k) ∧ refOk K G.1 o (W9' o k))
    (k : Gd K M p l e R s m args below meth c Q S0 ρ0 (pc + 3, L, L2, St, (I', V', W9', G))) : Gd K M p l e R s m args below meth c Q S0 ρ0 (pc, L, L2, w :: aR o :: St, (I, V, W9, G)) := by
  intro ρ H locs ls F
  obtain ⟨hc1, hc2, hc3, hc4, hc5⟩ := cl_ok a (by omega)
  have hcl : vwCl[a]? = some ((clC a).1, (clC a).2.1, nfl a) := by rw [hc1, ← hc2]
  have hlw := C0.w hw args
  have hlive : o ∈ G.1 := F.pop.live (F.pop.t1.1 o rfl) hro
  obtain ⟨j, hj, hjw⟩ := ws_at (K := K) (ρ := ρ) (S := (I, V, W9, G)) hlive
  rw [elem_obj hk] at hjw
  have hset2 : (elF K ρ (I, V, W9, G) o a).set q9 (av K ρ w) = elF K ρ (I', V', W9', G) o a := elF_set hset
  have fin : ∀ (H1 : Heap) (locs1 : List Loc), va_P (xD K) vwCl ((wsO K ρ (I, V, W9, G)).set j (ρ o, .inr (a, (elF K ρ (I, V, W9, G) o a).set q9 (av K ρ w)))) H1 → va_D (xA K) ((wsO K ρ (I, V, W9, G)).set j (ρ o, .inr (a, (elF K ρ (I, V, W9, G) o a).set q9 (av K ρ w)))) → va_S (xA K) s.heap H1 locs1 → W p l e R s m args below meth c H1 locs1 (cel (I, V, W9, G) - cel S0) (slo (I, V, W9, G) - slo S0) Q (F0 m (pc + 3) ls (St.map (av K ρ))) := by
    intro H1 locs1 hP1 hD1 hS1
    rw [hset2, ← elem_obj (S := (I', V', W9', G)) hk] at hP1 hD1
    exact k ρ H1 locs1 ls (Fs.upd F.pop.pop hj h1 h2 h3 (hr (F.1.2.1.2.2.2.1 o hlive) F.t1.1) hP1 hD1 hS1)
  show W p l e R s m args below meth c H locs _ _ Q (F0 m pc ls (av K ρ w :: av K ρ (aR o) :: St.map (av K ρ)))
  rw [av_ref (isRo_48 hro), ad_live hro]
  have hlen : q9 < (elF K ρ (I, V, W9, G) o a).length := by
    unfold elF
    rw [List.length_map, List.length_range]
    exact hq
  by_cases hf : ((clC a).2.1 q9).2.2.2 = false
  · by_cases hn : nest = 0
    · have hl : (Cond.fieldLink (mtY M).cls i ((clC a).2.1 q9).1 ((clC a).2.1 q9).2.1 ((clC a).2.1 q9).2.2.1).before args s = true := by
        have := hlw
        unfold fldW at this
        rw [if_pos hn] at this
        exact this
      exact va_put (ci := a) C0.1 C0.2.1 (C0.ts args) hc5 (tyC a) hc3 hc4 C0.2.2.2.1 C0.vk F.1.1.1 F.1.1.2 F.1.2.2.1 j hjw hcl q9 hq hl (fun _ h => h) hf (hc3 q9 hq) (hty ρ).1 (hty ρ).2 hlen hd fin
    · have hl : (Cond.fieldLinkNest (mtY M).cls i ((clC a).2.1 q9).1 ((clC a).2.1 q9).2.1 ((clC a).2.1 q9).2.2.1 "FrequencyOffice").before args s = true := by
        have := hlw
        unfold fldW at this
        rw [if_neg hn] at this
        exact this
      exact va_putN (ci := a) C0.1 C0.2.1 (C0.ts args) hc5 (tyC a) hc3 hc4 C0.2.2.2.1 C0.vk F.1.1.1 F.1.1.2 F.1.2.2.1 j hjw hcl q9 hq hl (fun _ h => h) hf (hc3 q9 hq) (hty ρ).1 (hty ρ).2 hlen hd fin
  · obtain ⟨hi, hdl, hn⟩ := hfin.resolve_left hf
    have hl : (Cond.fieldLink (mtY M).cls i ((clC a).2.1 q9).1 ((clC a).2.1 q9).2.1 ((clC a).2.1 q9).2.2.1).before args s = true := by
      have := hlw
      unfold fldW at this
      rw [if_pos hn] at this
      exact this
    exact va_putF (ci := a) C0.1 C0.2.1 (C0.ts args) hc5 (tyC a) hc3 hc4 C0.2.2.2.1 C0.vk F.1.1.1 F.1.1.2 F.1.2.2.1 j hjw hcl q9 hq hl (fun _ h => h) (by simpa using hf) (by rw [C0.2.2.2.2.2.2]; exact hi) hdl (hc3 q9 hq) (hty ρ).1 (hty ρ).2 hlen hd fin
/-- arrays: what is read -/
theorem kOf_arr {o : OId} {ty : FieldType} {k : Nat} (h : kOf o = .inr (ty, k)) : ty = .int ∨ ty = .long ∨ ty = .byte ∨ ty = .boolean ∨ ty = .double ∨ ty = kSt ∨ ty = kBk := by
  unfold kOf at h
  split at h <;> first | (cases h; simp) | cases h
theorem g_iaload {i : Int32} {o : OId} (C0 : Cx K M p l s m meth c) (hd : decode (mtC M) pc = .ok (.iaload, 1)) (hk : kOf o = .inr (.int, n)) (hi : inB i n = true) (k : Gd K M p l e R s m args below meth c Q S0 ρ0 (pc + 1, L, L2, aI (agI S o i.toNatClampNeg) :: St, S)) : Gd K M p l e R s m args below meth c Q S0 ρ0 (pc, L, L2, aI i :: aR o :: St, S) := by
  intro ρ H locs ls F
  have kk := k ρ H locs ls F.pop.pop.push
  show W p l e R s m args below meth c H locs _ _ Q (F0 m pc ls (.int i :: av K ρ (aR o) :: St.map (av K ρ)))
  rcases F.pop.t1.1 o rfl with ho | ho
  · have hro := F.1.2.1.2.1 o ho
    obtain ⟨j, hj, hjw⟩ := ws_at (K := K) (ρ := ρ) ho
    rw [elem_arr hk] at hjw
    have e1 : agI S o i.toNatClampNeg = S.1 o i.toNatClampNeg := by
      unfold agI
      split
      · rename_i h; unfold isRo at hro; rw [h] at hro; cases hro
      · rfl
    rw [e1] at kk
    rw [av_ref (isRo_48 hro), ad_live hro]
    exact va_iald C0.1 C0.2.1 C0.vk F.1.1.1 j 0 hjw rfl (inB_in hi) hd kk
  · rcases ho with rfl | rfl | rfl | ⟨i3, -, rfl⟩ | ⟨i3, hi3, rfl⟩ | rfl
    · obtain ⟨-, -, hz, hX, hb, -⟩ := C0.2.2.2.2.1
      have hn : n = xL K := by cases hk; rfl
      subst hn
      have e1 : agI S (44, xL K, 0) i.toNatClampNeg = xS K i.toNatClampNeg := by
        show S.2.2.2.2.2.2.2.2 _ = _
        rw [F.1.2.1.2.2.2.2.1]
      rw [e1] at kk
      exact va_sld C0.1 C0.2.1 hX (Nat.lt_of_lt_of_le hb hz) (Nat.not_le.mpr hb) F.1.2.2.1 (inB_in hi) hd kk
    · cases hk
    · cases hk
    · cases hk
    · cases hk
    · cases hk
theorem g_baload {i : Int32} {o : OId} (C0 : Cx K M p l s m meth c) (hd : decode (mtC M) pc = .ok (.baload, 1)) (hk : kOf o = .inr (.byte, n)) (hi : inB i n = true) (k : Gd K M p l e R s m args below meth c Q S0 ρ0 (pc + 1, L, L2, aI (agB S o i.toNatClampNeg) :: St, S)) : Gd K M p l e R s m args below meth c Q S0 ρ0 (pc, L, L2, aI i :: aR o :: St, S) := by
  intro ρ H locs ls F
  have kk := k ρ H locs ls F.pop.pop.push
  show W p l e R s m args below meth c H locs _ _ Q (F0 m pc ls (.int i :: av K ρ (aR o) :: St.map (av K ρ)))
  rcases F.pop.t1.1 o rfl with ho | ho
  · have hro := F.1.2.1.2.1 o ho
    obtain ⟨j, hj, hjw⟩ := ws_at (K := K) (ρ := ρ) ho
    rw [elem_arr hk] at hjw
    have e1 : agB S o i.toNatClampNeg = by8 (S.1 o i.toNatClampNeg) := by
      unfold agB
      split <;> first | rfl | (rename_i h; unfold isRo at hro; rw [h] at hro; cases hro)
    rw [e1] at kk
    rw [av_ref (isRo_48 hro), ad_live hro]
    exact va_bald C0.1 C0.2.1 C0.vk F.1.1.1 j 2 hjw rfl (inB_in hi) hd kk
  · obtain ⟨-, -, -, -, -, hstr, hT, hO, -⟩ := C0.2.2.2.2.1
    rcases ho with rfl | rfl | rfl | ⟨i3, hi3, rfl⟩ | ⟨i3, hi3, rfl⟩ | rfl
    · cases hk
    · cases hk
      exact va_tb C0.1 C0.2.1 hT F.1.2.2.1 (inB_in hi) rfl hd kk
    · cases hk
      exact va_tb C0.1 C0.2.1 hO F.1.2.2.1 (inB_in hi) rfl hd kk
    · have hn : n = 2 := by cases hk; rfl
      subst hn
      have h4 := (hstr.1 i3 hi3).2.2.2
      rw [show ([2, 2, 2] : List Nat).getD i3 0 = 2 from by rcases (by omega : i3 = 0 ∨ i3 = 1 ∨ i3 = 2) with rfl | rfl | rfl <;> rfl] at h4
      refine va_tb C0.1 C0.2.1 h4 F.1.2.2.1 (inB_in hi) ?_ hd kk
      have h5 : i.toNatClampNeg < 2 := Nat.not_le.mp fun q => inB_in hi (Or.inr q)
      generalize i.toNatClampNeg = t at h5 ⊢
      rcases (by omega : i3 = 0 ∨ i3 = 1 ∨ i3 = 2) with rfl | rfl | rfl <;> rcases (by omega : t = 0 ∨ t = 1) with rfl | rfl <;> rfl
    · cases hk
    · cases hk
theorem g_zaload {i : Int32} {o : OId} (C0 : Cx K M p l s m meth c) (hd : decode (mtC M) pc = .ok (.baload, 1)) (hk : kOf o = .inr (.boolean, n)) (hi : inB i n = true) (k : Gd K M p l e R s m args below meth c Q S0 ρ0 (pc + 1, L, L2, aI (bb (S.1 o i.toNatClampNeg)) :: St, S)) : Gd K M p l e R s m args below meth c Q S0 ρ0 (pc, L, L2, aI i :: aR o :: St, S) := by
  intro ρ H locs ls F
  have kk := k ρ H locs ls F.pop.pop.push
  show W p l e R s m args below meth c H locs _ _ Q (F0 m pc ls (.int i :: av K ρ (aR o) :: St.map (av K ρ)))
  rcases F.pop.t1.1 o rfl with ho | ho
  · have hro := F.1.2.1.2.1 o ho
    obtain ⟨j, hj, hjw⟩ := ws_at (K := K) (ρ := ρ) ho
    rw [elem_arr hk] at hjw
    rw [av_ref (isRo_48 hro), ad_live hro]
    exact va_zald C0.1 C0.2.1 C0.vk F.1.1.1 j 3 hjw rfl (inB_in hi) hd kk
  · rcases ho with rfl | rfl | rfl | ⟨i3, -, rfl⟩ | ⟨i3, hi3, rfl⟩ | rfl <;> cases hk
theorem g_laload {i : Int32} {o : OId} (C0 : Cx K M p l s m meth c) (hd : decode (mtC M) pc = .ok (.laload, 1)) (hk : kOf o = .inr (.long, n)) (hi : inB i n = true) (k : Gd K M p l e R s m args below meth c Q S0 ρ0 (pc + 1, L, L2, aL (toL (S.2.1 o i.toNatClampNeg)) :: St, S)) : Gd K M p l e R s m args below meth c Q S0 ρ0 (pc, L, L2, aI i :: aR o :: St, S) := by
  intro ρ H locs ls F
  have kk := k ρ H locs ls F.pop.pop.push
  show W p l e R s m args below meth c H locs _ _ Q (F0 m pc ls (.int i :: av K ρ (aR o) :: St.map (av K ρ)))
  rcases F.pop.t1.1 o rfl with ho | ho
  · have hro := F.1.2.1.2.1 o ho
    obtain ⟨j, hj, hjw⟩ := ws_at (K := K) (ρ := ρ) ho
    rw [elem_arr hk] at hjw
    rw [av_ref (isRo_48 hro), ad_live hro]
    exact va_lald C0.1 C0.2.1 C0.vk F.1.1.1 j 1 hjw rfl (inB_in hi) hd kk
  · rcases ho with rfl | rfl | rfl | ⟨i3, -, rfl⟩ | ⟨i3, hi3, rfl⟩ | rfl <;> cases hk
theorem g_daload {i : Int32} {o : OId} (C0 : Cx K M p l s m meth c) (hd : decode (mtC M) pc = .ok (.daload, 1)) (hk : kOf o = .inr (.double, n)) (hi : inB i n = true) (k : Gd K M p l e R s m args below meth c Q S0 ρ0 (pc + 1, L, L2, aD (toD (S.2.1 o i.toNatClampNeg)) :: St, S)) : Gd K M p l e R s m args below meth c Q S0 ρ0 (pc, L, L2, aI i :: aR o :: St, S) := by
  intro ρ H locs ls F
  have kk := k ρ H locs ls F.pop.pop.push
  show W p l e R s m args below meth c H locs _ _ Q (F0 m pc ls (.int i :: av K ρ (aR o) :: St.map (av K ρ)))
  rcases F.pop.t1.1 o rfl with ho | ho
  · have hro := F.1.2.1.2.1 o ho
    obtain ⟨j, hj, hjw⟩ := ws_at (K := K) (ρ := ρ) ho
    rw [elem_arr hk] at hjw
    rw [av_ref (isRo_48 hro), ad_live hro]
    exact va_dald C0.1 C0.2.1 C0.vk F.1.1.1 j 4 hjw rfl (inB_in hi) hd kk
  · rcases ho with rfl | rfl | rfl | ⟨i3, -, rfl⟩ | ⟨i3, hi3, rfl⟩ | rfl <;> cases hk
theorem g_aaload {i : Int32} {o : OId} {C : String} (C0 : Cx K M p l s m meth c) (hd : decode (mtC M) pc = .ok (.aaload, 1)) (hk : kOf o = .inr (.object C, n)) (hi : inB i n = true) (k : Gd K M p l e R s m args below meth c Q S0 ρ0 (pc + 1, L, L2, S.2.2.1 o i.toNatClampNeg :: St, S)) : Gd K M p l e R s m args below meth c Q S0 ρ0 (pc, L, L2, aI i :: aR o :: St, S) := by
  intro ρ H locs ls F
  show W p l e R s m args below meth c H locs _ _ Q (F0 m pc ls (.int i :: av K ρ (aR o) :: St.map (av K ρ)))
  rcases F.pop.t1.1 o rfl with ho | ho
  · have hro := F.1.2.1.2.1 o ho
    obtain ⟨j, hj, hjw⟩ := ws_at (K := K) (ρ := ρ) ho
    rw [elem_arr hk] at hjw
    rw [av_ref (isRo_48 hro), ad_live hro]
    have h4 := (F.1.2.1.2.2.2.1 o ho i.toNatClampNeg).2
    have hok : okA K (lv S) (S.2.2.1 o i.toNatClampNeg) := h4.1
    have e5 : av K ρ (S.2.2.1 o i.toNatClampNeg) = va_rf (rfO K ρ (S.2.2.1 o i.toNatClampNeg)) := by
      rcases h4.2 (by unfold arR; rw [hk]) with e4 | ⟨o', e4, h6⟩
      · rw [e4]; rfl
      · rw [e4, av_ref h6]; rfl
    have kk := k ρ H locs ls (F.pop.pop.stk (ok_c hok F.pop.pop.2.2))
    have kk2 : W p l e R s m args below meth c H locs (cel S - cel S0) (slo S - slo S0) Q (F0 m (pc + 1) ls (va_rf (rfO K ρ (S.2.2.1 o i.toNatClampNeg)) :: St.map (av K ρ))) := by rw [← e5]; exact kk
    rcases kOf_arr hk with q | q | q | q | q | q | q <;> cases q
    · exact va_aldq C0.1 C0.2.1 C0.vk F.1.1.1 j 5 hjw rfl (inB_in hi) hd kk2
    · exact va_aldq C0.1 C0.2.1 C0.vk F.1.1.1 j 6 hjw rfl (inB_in hi) hd kk2
  · rcases ho with rfl | rfl | rfl | ⟨i3, -, rfl⟩ | ⟨i3, hi3, rfl⟩ | rfl <;> cases hk
theorem g_alen {o : OId} {ty : FieldType} (C0 : Cx K M p l s m meth c) (hd : decode (mtC M) pc = .ok (.arraylength, 1)) (hk : kOf o = .inr (ty, n)) (k : Gd K M p l e R s m args below meth c Q S0 ρ0 (pc + 1, L, L2, aI (Int32.ofNat n) :: St, S)) : Gd K M p l e R s m args below meth c Q S0 ρ0 (pc, L, L2, aR o :: St, S) := by
  intro ρ H locs ls F
  have kk := k ρ H locs ls F.pop.push
  show W p l e R s m args below meth c H locs _ _ Q (F0 m pc ls (av K ρ (aR o) :: St.map (av K ρ)))
  rcases F.t1.1 o rfl with ho | ho
  · have hro := F.1.2.1.2.1 o ho
    obtain ⟨j, hj, hjw⟩ := ws_at (K := K) (ρ := ρ) ho
    rw [elem_arr hk] at hjw
    rw [av_ref (isRo_48 hro), ad_live hro]
    rcases kOf_arr hk with q | q | q | q | q | q | q <;> subst q
    · exact va_alen (t0 := 0) C0.1 C0.2.1 C0.vk F.1.1.1 j hjw (by rfl) rfl hd kk
    · exact va_alen (t0 := 1) C0.1 C0.2.1 C0.vk F.1.1.1 j hjw (by rfl) rfl hd kk
    · exact va_alen (t0 := 2) C0.1 C0.2.1 C0.vk F.1.1.1 j hjw (by rfl) rfl hd kk
    · exact va_alen (t0 := 3) C0.1 C0.2.1 C0.vk F.1.1.1 j hjw (by rfl) rfl hd kk
    · exact va_alen (t0 := 4) C0.1 C0.2.1 C0.vk F.1.1.1 j hjw (by rfl) rfl hd kk
    · exact va_alen (t0 := 5) C0.1 C0.2.1 C0.vk F.1.1.1 j hjw (by rfl) rfl hd kk
    · exact va_alen (t0 := 6) C0.1 C0.2.1 C0.vk F.1.1.1 j hjw (by rfl) rfl hd kk
  · obtain ⟨-, -, hz, hX, hb, hstr, hT, hO, -⟩ := C0.2.2.2.2.1
    rcases ho with rfl | rfl | rfl | ⟨i3, hi3, rfl⟩ | ⟨i3, hi3, rfl⟩ | rfl
    · cases hk
      exact va_slen C0.1 C0.2.1 hX (Nat.lt_of_lt_of_le hb hz) (Nat.not_le.mpr hb) F.1.2.2.1 hd kk
    · cases hk
      exact va_tlen C0.1 C0.2.1 hT F.1.2.2.1 rfl hd kk
    · cases hk
      exact va_tlen C0.1 C0.2.1 hO F.1.2.2.1 rfl hd kk
    · cases hk
      have h4 := (hstr.1 i3 hi3).2.2.2
      rw [show ([2, 2, 2] : List Nat).getD i3 0 = 2 from by rcases (by omega : i3 = 0 ∨ i3 = 1 ∨ i3 = 2) with rfl | rfl | rfl <;> rfl] at h4
      exact va_tlen C0.1 C0.2.1 h4 F.1.2.2.1 rfl hd kk
    · cases hk
    · cases hk
end STEP3
