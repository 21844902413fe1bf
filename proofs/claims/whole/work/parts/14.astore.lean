/-! SOUNDNESS: stores into arrays, constants, statics -/
theorem arr_e {K : KX} {ρ : OId → Nat} {S : SS} {o : OId} {ty : FieldType} {n : Nat} {x : VA2} (hk : kOf o = .inr (ty, n)) (h : elA K ρ S o ty = x) : elem K ρ S o = .inl (xt K ty, n, x) := by
  rw [elem_arr hk, h]
theorem up_i {f g : Nat → Int32} {k : Nat} {x : Int32} (h : ∀ q, g q = if q = k then x else f q) : upd f k x = g := by
  funext q
  rw [h q]
  rfl
theorem up_l {f g : Nat → Int64} {k : Nat} {x : Int64} (h : ∀ q, g q = if q = k then x else f q) : vp_updL f k x = g := by
  funext q
  rw [h q]
  rfl
theorem up_d {f g : Nat → UInt64} {k : Nat} {x : UInt64} (h : ∀ q, g q = if q = k then x else f q) : vf_upd f k x = g := by
  funext q
  rw [h q]
  rfl
theorem up_r {f g : Nat → Option Nat} {k : Nat} {x : Option Nat} (h : ∀ q, g q = if q = k then x else f q) : va_up f k x = g := by
  funext q
  rw [h q]
  rfl
theorem vpn_b (x : Int32) : vp_nar .byte x = by8 x := rfl
theorem okW {K : KX} {l : List OId} {o : OId} {w : AV} {V W9 : OId → Nat → AV} {k0 : Nat} (h : ∀ k, okA K l (V o k) ∧ refOk K l o (W9 o k)) (hw : okA K l w) : ∀ k, okA K l (setV V o k0 w o k) ∧ refOk K l o (W9 o k) := by
  intro k
  refine ⟨?_, (h k).2⟩
  rw [setV_at]
  by_cases e : k = k0
  · rw [if_pos e]; exact hw
  · rw [if_neg e]; exact (h k).1
theorem okR {K : KX} {l : List OId} {o : OId} {w : AV} {V W9 : OId → Nat → AV} {k0 : Nat} (h : ∀ k, okA K l (V o k) ∧ refOk K l o (W9 o k)) (hw : refOk K l o w) : ∀ k, okA K l (V o k) ∧ refOk K l o (setV W9 o k0 w o k) := by
  intro k
  refine ⟨(h k).1, ?_⟩
  rw [setV_at]
  by_cases e : k = k0
  · rw [if_pos e]; exact hw
  · rw [if_neg e]; exact (h k).2
section STEP4
variable {K : KX} {M : Nat} {p : Program} {l : Launch} {e : Env} {R : Room} {s : State} {m : MethodId} {args : Array Value} {below : List Frame} {meth : Method} {c : Code} {Q : State → Prop} {S0 : SS} {ρ0 : OId → Nat}
variable {ρ : OId → Nat} {H H0 H1 : Heap} {locs locs1 : List Loc} {ls : Array Slot} {L : List (Option AV)} {L2 : List (Nat × AV)} {St : List AV} {S : SS} {pc n : Nat} {z : Int} {r : Nat × Nat × Nat × Nat}
variable {I : OId → Nat → Int32} {V W9 : OId → Nat → AV} {G : SG}

theorem g_iastore {i : Int32} {x : Int32} {o : OId} (C0 : Cx K M p l s m meth c) (hd : decode (mtC M) pc = .ok (.iastore, 1)) (hk : kOf o = .inr (.int, n)) (hi : inB i n = true) (hro : isRo o = false) (k : Gd K M p l e R s m args below meth c Q S0 ρ0 (pc + 1, L, L2, St, (setI I o i.toNatClampNeg x, V, W9, G))) : Gd K M p l e R s m args below meth c Q S0 ρ0 (pc, L, L2, .inl (.int x) :: aI i :: aR o :: St, (I, V, W9, G)) := by
  intro ρ H locs ls F
  have hlive : o ∈ G.1 := F.pop.pop.live (F.pop.pop.t1.1 o rfl) hro
  obtain ⟨j, hj, hjw⟩ := ws_at (K := K) (ρ := ρ) (S := (I, V, W9, G)) hlive
  rw [arr_e (K := K) (ρ := ρ) (S := (I, V, W9, G)) (x := (.inl (fun k => I o k))) hk rfl] at hjw
  show W p l e R s m args below meth c H locs _ _ Q (F0 m pc ls (.int x :: .int i :: av K ρ (aR o) :: St.map (av K ρ)))
  rw [av_ref (isRo_48 hro), ad_live hro]
  refine va_iast C0.1 C0.2.1 C0.vk F.1.1.1 F.1.1.2 F.1.2.2.1 j 0 hjw rfl (inB_in hi) hd fun H1 locs1 hP1 hD1 hS1 => ?_
  have e9 : elem K ρ (setI I o i.toNatClampNeg x, V, W9, G) o = .inl (xt K .int, n, .inl (upd (fun k => I o k) i.toNatClampNeg x)) := arr_e hk (by
    show (Sum.inl (fun k => setI I o i.toNatClampNeg x o k)) = _
    rw [up_i (g := fun k => setI I o i.toNatClampNeg x o k) ?_]
    intro q; exact setI_at)
  rw [← e9] at hP1 hD1
  exact k ρ H1 locs1 ls (Fs.upd F.pop.pop.pop hj (fun o' ho => setI_ne ho) (fun _ _ => rfl) (fun _ _ => rfl) (F.1.2.1.2.2.2.1 o hlive) hP1 hD1 hS1)

theorem g_bastore {i : Int32} {x : Int32} {o : OId} (C0 : Cx K M p l s m meth c) (hd : decode (mtC M) pc = .ok (.bastore, 1)) (hk : kOf o = .inr (.byte, n)) (hi : inB i n = true) (hro : isRo o = false) (k : Gd K M p l e R s m args below meth c Q S0 ρ0 (pc + 1, L, L2, St, (setI I o i.toNatClampNeg x, V, W9, G))) : Gd K M p l e R s m args below meth c Q S0 ρ0 (pc, L, L2, .inl (.int x) :: aI i :: aR o :: St, (I, V, W9, G)) := by
  intro ρ H locs ls F
  have hlive : o ∈ G.1 := F.pop.pop.live (F.pop.pop.t1.1 o rfl) hro
  obtain ⟨j, hj, hjw⟩ := ws_at (K := K) (ρ := ρ) (S := (I, V, W9, G)) hlive
  rw [arr_e (K := K) (ρ := ρ) (S := (I, V, W9, G)) (x := (.inl (fun k => by8 (I o k)))) hk rfl] at hjw
  show W p l e R s m args below meth c H locs _ _ Q (F0 m pc ls (.int x :: .int i :: av K ρ (aR o) :: St.map (av K ρ)))
  rw [av_ref (isRo_48 hro), ad_live hro]
  refine va_bast C0.1 C0.2.1 C0.vk F.1.1.1 F.1.1.2 F.1.2.2.1 j 2 hjw rfl (inB_in hi) hd fun H1 locs1 hP1 hD1 hS1 => ?_
  have e9 : elem K ρ (setI I o i.toNatClampNeg x, V, W9, G) o = .inl (xt K .byte, n, .inl (upd (fun k => by8 (I o k)) i.toNatClampNeg (vp_nar .byte x))) := arr_e hk (by
    show (Sum.inl (fun k => by8 (setI I o i.toNatClampNeg x o k))) = _
    rw [up_i (g := fun k => by8 (setI I o i.toNatClampNeg x o k)) ?_]
    intro q; show by8 (setI I o i.toNatClampNeg x o q) = _; rw [setI_at, vpn_b, apply_ite by8])
  rw [← e9] at hP1 hD1
  exact k ρ H1 locs1 ls (Fs.upd F.pop.pop.pop hj (fun o' ho => setI_ne ho) (fun _ _ => rfl) (fun _ _ => rfl) (F.1.2.1.2.2.2.1 o hlive) hP1 hD1 hS1)

theorem g_zastore {i : Int32} {x : Int32} {o : OId} (C0 : Cx K M p l s m meth c) (hd : decode (mtC M) pc = .ok (.bastore, 1)) (hk : kOf o = .inr (.boolean, n)) (hi : inB i n = true) (hro : isRo o = false) (hx : x = 0 ∨ x = 1) (k : Gd K M p l e R s m args below meth c Q S0 ρ0 (pc + 1, L, L2, St, (setI I o i.toNatClampNeg x, V, W9, G))) : Gd K M p l e R s m args below meth c Q S0 ρ0 (pc, L, L2, .inl (.int x) :: aI i :: aR o :: St, (I, V, W9, G)) := by
  intro ρ H locs ls F
  have hlive : o ∈ G.1 := F.pop.pop.live (F.pop.pop.t1.1 o rfl) hro
  obtain ⟨j, hj, hjw⟩ := ws_at (K := K) (ρ := ρ) (S := (I, V, W9, G)) hlive
  rw [arr_e (K := K) (ρ := ρ) (S := (I, V, W9, G)) (x := (.inl (fun k => bb (I o k)))) hk rfl] at hjw
  show W p l e R s m args below meth c H locs _ _ Q (F0 m pc ls (.int x :: .int i :: av K ρ (aR o) :: St.map (av K ρ)))
  rw [av_ref (isRo_48 hro), ad_live hro]
  refine va_zast C0.1 C0.2.1 C0.vk F.1.1.1 F.1.1.2 F.1.2.2.1 j 3 hjw rfl (inB_in hi) hd fun H1 locs1 hP1 hD1 hS1 => ?_
  have e9 : elem K ρ (setI I o i.toNatClampNeg x, V, W9, G) o = .inl (xt K .boolean, n, .inl (upd (fun k => bb (I o k)) i.toNatClampNeg (vp_nar .boolean x))) := arr_e hk (by
    show (Sum.inl (fun k => bb (setI I o i.toNatClampNeg x o k))) = _
    rw [up_i (g := fun k => bb (setI I o i.toNatClampNeg x o k)) ?_]
    intro q; show bb (setI I o i.toNatClampNeg x o q) = _; rw [setI_at, vp_nar_bool hx]; rw [apply_ite bb, bb_of hx])
  rw [← e9] at hP1 hD1
  exact k ρ H1 locs1 ls (Fs.upd F.pop.pop.pop hj (fun o' ho => setI_ne ho) (fun _ _ => rfl) (fun _ _ => rfl) (F.1.2.1.2.2.2.1 o hlive) hP1 hD1 hS1)

theorem g_lastore {i : Int32} {x : Int64} {o : OId} (C0 : Cx K M p l s m meth c) (hd : decode (mtC M) pc = .ok (.lastore, 1)) (hk : kOf o = .inr (.long, n)) (hi : inB i n = true) (hro : isRo o = false) (k : Gd K M p l e R s m args below meth c Q S0 ρ0 (pc + 1, L, L2, St, (I, setV V o i.toNatClampNeg (.inl (.long x)), W9, G))) : Gd K M p l e R s m args below meth c Q S0 ρ0 (pc, L, L2, .inl (.long x) :: aI i :: aR o :: St, (I, V, W9, G)) := by
  intro ρ H locs ls F
  have hlive : o ∈ G.1 := F.pop.pop.live (F.pop.pop.t1.1 o rfl) hro
  obtain ⟨j, hj, hjw⟩ := ws_at (K := K) (ρ := ρ) (S := (I, V, W9, G)) hlive
  rw [arr_e (K := K) (ρ := ρ) (S := (I, V, W9, G)) (x := (.inr (.inl (fun k => toL (V o k))))) hk rfl] at hjw
  show W p l e R s m args below meth c H locs _ _ Q (F0 m pc ls (.long x :: .int i :: av K ρ (aR o) :: St.map (av K ρ)))
  rw [av_ref (isRo_48 hro), ad_live hro]
  refine va_last C0.1 C0.2.1 C0.vk F.1.1.1 F.1.1.2 F.1.2.2.1 j 1 hjw rfl (inB_in hi) hd fun H1 locs1 hP1 hD1 hS1 => ?_
  have e9 : elem K ρ (I, setV V o i.toNatClampNeg (.inl (.long x)), W9, G) o = .inl (xt K .long, n, .inr (.inl (vp_updL (fun k => toL (V o k)) i.toNatClampNeg x))) := arr_e hk (by
    show (Sum.inr (Sum.inl (fun k => toL (setV V o i.toNatClampNeg (.inl (.long x)) o k)))) = _
    rw [up_l (g := fun k => toL (setV V o i.toNatClampNeg (.inl (.long x)) o k)) ?_]
    intro q; show toL (setV V o i.toNatClampNeg (.inl (.long x)) o q) = _; rw [setV_at]; exact apply_ite toL _ _ _)
  rw [← e9] at hP1 hD1
  exact k ρ H1 locs1 ls (Fs.upd F.pop.pop.pop hj (fun _ _ => rfl) (fun o' ho => setV_ne ho) (fun _ _ => rfl) (okW (F.1.2.1.2.2.2.1 o hlive) okA_inl) hP1 hD1 hS1)

theorem g_dastore {i : Int32} {x : UInt64} {o : OId} (C0 : Cx K M p l s m meth c) (hd : decode (mtC M) pc = .ok (.dastore, 1)) (hk : kOf o = .inr (.double, n)) (hi : inB i n = true) (hro : isRo o = false) (k : Gd K M p l e R s m args below meth c Q S0 ρ0 (pc + 1, L, L2, St, (I, setV V o i.toNatClampNeg (.inl (.double x)), W9, G))) : Gd K M p l e R s m args below meth c Q S0 ρ0 (pc, L, L2, .inl (.double x) :: aI i :: aR o :: St, (I, V, W9, G)) := by
  intro ρ H locs ls F
  have hlive : o ∈ G.1 := F.pop.pop.live (F.pop.pop.t1.1 o rfl) hro
  obtain ⟨j, hj, hjw⟩ := ws_at (K := K) (ρ := ρ) (S := (I, V, W9, G)) hlive
  rw [arr_e (K := K) (ρ := ρ) (S := (I, V, W9, G)) (x := (.inr (.inr (.inr (.inl (fun k => toD (V o k))))))) hk rfl] at hjw
  show W p l e R s m args below meth c H locs _ _ Q (F0 m pc ls (.double x :: .int i :: av K ρ (aR o) :: St.map (av K ρ)))
  rw [av_ref (isRo_48 hro), ad_live hro]
  refine va_dast C0.1 C0.2.1 C0.vk F.1.1.1 F.1.1.2 F.1.2.2.1 j 4 hjw rfl (inB_in hi) hd fun H1 locs1 hP1 hD1 hS1 => ?_
  have e9 : elem K ρ (I, setV V o i.toNatClampNeg (.inl (.double x)), W9, G) o = .inl (xt K .double, n, .inr (.inr (.inr (.inl (vf_upd (fun k => toD (V o k)) i.toNatClampNeg x))))) := arr_e hk (by
    show (Sum.inr (Sum.inr (Sum.inr (Sum.inl (fun k => toD (setV V o i.toNatClampNeg (.inl (.double x)) o k)))))) = _
    rw [up_d (g := fun k => toD (setV V o i.toNatClampNeg (.inl (.double x)) o k)) ?_]
    intro q; show toD (setV V o i.toNatClampNeg (.inl (.double x)) o q) = _; rw [setV_at]; exact apply_ite toD _ _ _)
  rw [← e9] at hP1 hD1
  exact k ρ H1 locs1 ls (Fs.upd F.pop.pop.pop hj (fun _ _ => rfl) (fun o' ho => setV_ne ho) (fun _ _ => rfl) (okW (F.1.2.1.2.2.2.1 o hlive) okA_inl) hP1 hD1 hS1)

theorem g_aastore {i : Int32} {C : String} {v o : OId} {cv : Nat} (C0 : Cx K M p l s m meth c) (hd : decode (mtC M) pc = .ok (.aastore, 1)) (hk : kOf o = .inr (.object C, n)) (hv : kOf v = .inl cv) (hi : inB i n = true) (hC : (vwCl.map (fun q => q.1))[cv]? = some C) (k : Gd K M p l e R s m args below meth c Q S0 ρ0 (pc + 1, L, L2, St, (I, V, setV W9 o i.toNatClampNeg (.inr v), G))) : Gd K M p l e R s m args below meth c Q S0 ρ0 (pc, L, L2, aR v :: aI i :: aR o :: St, (I, V, W9, G)) := by
  intro ρ H locs ls F
  have hCC : C = "FrequencyOffice$Station" ∨ C = "FrequencyOffice$Books" := by
    rcases kOf_arr hk with q | q | q | q | q | q | q <;> cases q
    · exact Or.inl rfl
    · exact Or.inr rfl
  have hro : isRo o = false := by
    cases h9 : isRo o with
    | false => rfl
    | true =>
      exfalso
      unfold isRo at h9
      unfold kOf at hk
      split at hk <;> simp_all
  have hcv : cv = 10 ∨ cv = 4 := by
    have hl : cv < 13 := by
      rcases Nat.lt_or_ge cv 13 with q | q
      · exact q
      · rw [List.getElem?_eq_none (by exact q)] at hC; cases hC
    have : ∀ c9, c9 < 13 → (vwCl.map (fun q => q.1))[c9]? = some "FrequencyOffice$Station" ∨ (vwCl.map (fun q => q.1))[c9]? = some "FrequencyOffice$Books" → c9 = 10 ∨ c9 = 4 := by decide +kernel
    rcases hCC with rfl | rfl
    · exact this cv hl (Or.inl hC)
    · exact this cv hl (Or.inr hC)
  have hrv : isRo v = false := by
    cases h9 : isRo v with
    | false => rfl
    | true =>
      exfalso
      unfold isRo at h9
      unfold kOf at hv
      rcases hcv with rfl | rfl <;> split at hv <;> simp_all
  have hov := F.t1.1
  have hlv : v ∈ G.1 := F.live (hov v rfl) hrv
  have hlive : o ∈ G.1 := F.pop.pop.live (F.pop.pop.t1.1 o rfl) hro
  obtain ⟨j, hj, hjw⟩ := ws_at (K := K) (ρ := ρ) (S := (I, V, W9, G)) hlive
  obtain ⟨jv, hjv, hjvw⟩ := ws_at (K := K) (ρ := ρ) (S := (I, V, W9, G)) hlv
  rw [arr_e (K := K) (ρ := ρ) (S := (I, V, W9, G)) (x := .inr (.inr (.inr (.inr (fun k => rfO K ρ (W9 o k)))))) hk rfl] at hjw
  rw [elem_obj hv] at hjvw
  obtain ⟨r9, hr9, hrC⟩ : ∃ r9, vwCl[cv]? = some r9 ∧ r9.1 = C := by
    rw [List.getElem?_map] at hC
    cases h9 : vwCl[cv]? with
    | none => rw [h9] at hC; cases hC
    | some r9 => rw [h9] at hC; exact ⟨r9, rfl, Option.some.inj hC⟩
  show W p l e R s m args below meth c H locs _ _ Q (F0 m pc ls (av K ρ (aR v) :: .int i :: av K ρ (aR o) :: St.map (av K ρ)))
  rw [av_ref (isRo_48 hro), ad_live hro, av_ref (isRo_48 hrv), ad_live hrv]
  have fin : ∀ (H1 : Heap) (locs1 : List Loc), va_P (xD K) vwCl ((wsO K ρ (I, V, W9, G)).set j (ρ o, .inl (xt K (.object C), n, .inr (.inr (.inr (.inr (va_up (fun k => rfO K ρ (W9 o k)) i.toNatClampNeg (some (ρ v))))))))) H1 → va_D (xA K) ((wsO K ρ (I, V, W9, G)).set j (ρ o, .inl (xt K (.object C), n, .inr (.inr (.inr (.inr (va_up (fun k => rfO K ρ (W9 o k)) i.toNatClampNeg (some (ρ v))))))))) → va_S (xA K) s.heap H1 locs1 → W p l e R s m args below meth c H1 locs1 (cel (I, V, W9, G) - cel S0) (slo (I, V, W9, G) - slo S0) Q (F0 m (pc + 1) ls (St.map (av K ρ))) := by
    intro H1 locs1 hP1 hD1 hS1
    have e9 : elem K ρ (I, V, setV W9 o i.toNatClampNeg (.inr v), G) o = .inl (xt K (.object C), n, .inr (.inr (.inr (.inr (va_up (fun k => rfO K ρ (W9 o k)) i.toNatClampNeg (some (ρ v))))))) := arr_e hk (by
      show (Sum.inr (Sum.inr (Sum.inr (Sum.inr (fun k => rfO K ρ (setV W9 o i.toNatClampNeg (.inr v) o k)))))) = _
      rw [up_r (g := fun k => rfO K ρ (setV W9 o i.toNatClampNeg (.inr v) o k)) ?_]
      intro q
      show rfO K ρ (setV W9 o i.toNatClampNeg (.inr v) o q) = _
      rw [setV_at, apply_ite (rfO K ρ)]
      show (if q = i.toNatClampNeg then some (ad K ρ v) else _) = _
      rw [ad_live hrv])
    rw [← e9] at hP1 hD1
    exact k ρ H1 locs1 ls (Fs.upd F.pop.pop.pop hj (fun _ _ => rfl) (fun _ _ => rfl) (fun o' ho => setV_ne ho) (okR (F.1.2.1.2.2.2.1 o hlive) ⟨hov, fun _ => Or.inr ⟨v, rfl, isRo_48 hrv⟩⟩) hP1 hD1 hS1)
  subst hrC
  rcases hCC with q | q
  · refine va_astq (r := r9) C0.1 C0.2.1 C0.vk F.1.1.1 F.1.1.2 F.1.2.2.1 j 5 jv cv hjw ?_ hjvw hr9 (inB_in hi) hd fin
    rw [q]; rfl
  · refine va_astq (r := r9) C0.1 C0.2.1 C0.vk F.1.1.1 F.1.1.2 F.1.2.2.1 j 6 jv cv hjw ?_ hjvw hr9 (inB_in hi) hd fin
    rw [q]; rfl
end STEP4
