/-! SOUNDNESS: the class's own throws (but NoSuchElementException), and exceptions that pass -/
theorem ot_of {w : Cond} (h : w ∈ GB) : vx_ot w = true := by
  have h2 := (List.mem_filter.mp h).2
  unfold movW at h2
  unfold vx_ot
  rcases Bool.or_eq_true _ _ ▸ h2 with hg | hn
  · rw [hg, Bool.or_true]
  · cases w <;> first | rfl | cases hn
section STEP15
variable {K : KX} {M : Nat} {p : Program} {l : Launch} {e : Env} {R : Room} {s : State} {m : MethodId} {args : Array Value} {below : List Frame} {meth : Method} {c : Code} {Q : State → Prop} {S0 : SS} {ρ0 ρ' : OId → Nat}
variable {ρ : OId → Nat} {H H0 H1 : Heap} {locs locs1 : List Loc} {ls : Array Slot} {L : List (Option AV)} {L2 : List (Nat × AV)} {St : List AV} {S S' : SS} {pc n : Nat} {z : Int} {r : Nat × Nat × Nat × Nat}
/-- what is thrown leaves the picture as it was, an object more -/
theorem xc_ok {E : String} {t : State} (F : Fs K M S0 ρ0 s.heap ρ H locs ls L L2 St S) (h1 : H.size ≤ t.heap.size) (h2 : ∀ q : Nat, q < H.size → t.heap[q]? = H[q]?) : XcK K ρ0 S0 (.inr E, bump S 1 6) E s t := by
  have hk : ∀ (k : Nat) (x : Nat × va_E), (wsO K ρ S)[k]? = some x → t.heap[x.1]? = H[x.1]? := fun k x hx => h2 x.1 ((F.1.1.1 k x hx).lt)
  refine ⟨ρ, rfl, ⟨⟨F.1.1.1.kept hk, F.1.1.2⟩, F.1.2.1, Nat.le_trans F.1.2.2.2.1 (Nat.le_succ _), Nat.le_trans F.1.2.2.2.2.1 (Nat.le_add_right _ _), F.1.2.2.2.2.2⟩, ?_⟩
  exact ⟨Nat.le_trans F.1.2.2.1.1 h1, fun q h3 h4 => (h2 q (Nat.lt_of_lt_of_le h3 F.1.2.2.1.1)).trans (F.1.2.2.1.2.1 q h3 h4)⟩
theorem xc_mv {E : String} {t : State} (F : Fs K M S0 ρ0 s.heap ρ H locs ls L L2 St S) (ht : t.heap = H) : XcK K ρ0 S0 (.inr E, S) E s t :=
  ⟨ρ, rfl, ⟨by rw [ht]; exact F.1.1, F.1.2.1, F.1.2.2.2.1, F.1.2.2.2.2.1, F.1.2.2.2.2.2⟩, F.va_F ht⟩
/-- an exception that passes -/
theorem g_out {E : String} (hnt : ∀ x ∈ c.exceptionTable.toList, False) (hlk : meth.locks = false) : GdX K M p l e R s m args below meth c (RQ K below ρ0 S0 (.inr E, S) args s) S0 ρ0 E pc L L2 S := by
  intro ρ H locs ls q9 ce rest F h1 h2 h3
  exact vx_out (fun x hx => (hnt x hx).elim) hlk h1 h2 h3 (fun t ht _ => xc_mv F ht) F.1.2.2.1.2.2 (Nat.le_refl _) (Nat.le_refl _)
/-- the class's own throw -/
theorem g_throwS {x ik is ic w1 w2 : Nat} {tx : String} (C0 : Cx K M p l s m meth c) (hcl : (mtY M).cls = "FrequencyOffice") (hx : x = 0 ∨ x = 1 ∨ x = 2 ∨ x = 4 ∨ x = 5) (hts : tsP (mE M) pc ik is ic x tx w1 w2) (hnt : ∀ y ∈ c.exceptionTable.toList, False) (hlk : meth.locks = false) (hl : St.length ≤ 4) (hR : 10 ≤ R.frames ∧ 200 ≤ R.locals) (hcells : cel S + 1 - cel S0 ≤ R.cells) (hslots : slo S + 6 - slo S0 ≤ R.slots) : Gd K M p l e R s m args below meth c (RQ K below ρ0 S0 (.inr (exN x), bump S 1 6) args s) S0 ρ0 (pc, L, L2, St, S) := by
  intro ρ H locs ls F
  obtain ⟨t1, t2, d0, d3, dd, hex⟩ := hts
  obtain ⟨-, -, -, -, -, -, -, -, -, -, -, -, -, b5, b6, -, b8, -⟩ := C0.2.2.2.2.1
  obtain ⟨sa, hsa⟩ := b8 _ hex
  have hown := C0.2.2.2.1
  rw [hcl] at hown
  have h8 := cats4 (K := K) (ρ := ρ) hl
  have hm := wAt_ok t2
  have e1 : cel S + 1 - cel S0 = cel S - cel S0 + 1 := sub_1 F.1.2.2.2.1
  have e2 : slo S + 6 - slo S0 = slo S - slo S0 + 6 := sub_1 F.1.2.2.2.2.1
  rw [e1] at hcells
  rw [e2] at hslots
  have hat : ∀ w ∈ vx_atS "FrequencyOffice" ic (exN x) ["java/lang/RuntimeException", "java/lang/Exception"], w ∈ GB := by
    rcases hx with rfl | rfl | rfl | rfl | rfl
    · exact atS_0 hm
    · exact atS_1 hm
    · exact atS_2 hm
    · exact atS_4 hm
    · exact atS_5 hm
  have hini : Cond.initialized (exN x) ∈ GB := by
    rcases hx with rfl | rfl | rfl | rfl | rfl
    · exact ini_0
    · exact ini_1
    · exact ini_2
    · exact ini_4
    · exact ini_5
  have hfit : Bundle.fit (exN x) = true := by rcases hx with rfl | rfl | rfl | rfl | rfl <;> decide +kernel
  have hnm : ∀ n ∈ ["java/lang/RuntimeException", "java/lang/Exception"], Bundle.fit n = true := by decide +kernel
  have hgood : ∀ w ∈ Cond.classLink "FrequencyOffice" ik (exN x) :: Cond.initialized (exN x) :: vx_atS "FrequencyOffice" ic (exN x) ["java/lang/RuntimeException", "java/lang/Exception"], vx_ot w = true := by
    intro w hw
    rcases List.mem_cons.mp hw with rfl | hw
    · exact ot_of (wAt_ok t1)
    · rcases List.mem_cons.mp hw with rfl | hw
      · exact ot_of hini
      · exact ot_of (hat w hw)
  have hloc : ((St.map (av K ρ)).map fun v => v.category).sum + (13 * (2 + 1) + 43) ≤ R.locals := by omega
  rcases dd with ⟨d4, d6, d9⟩ | ⟨d4, d7, d10⟩
  · exact vx_throwS C0.1 C0.2.1 C0.2.2.2.2.2.1 hown hfit hnm (C0.w t1 args) (C0.gp _ hini args) hsa (fun w hw => C0.gp w (hat w hw) args) hgood b5 b6 F.1.2.2.1 (F.lz C0).symm d0 d3 d4 d6 d9 (fun y hy => (hnt y hy).elim) (by show 2 + 3 < R.frames; omega) hloc hcells hslots hlk (fun t _ h1 h2 => xc_ok F h1 h2) F.1.2.2.1.2.2 (Nat.le_of_eq e1.symm) (Nat.le_of_eq e2.symm)
  · exact vx_throwSW C0.1 C0.2.1 C0.2.2.2.2.2.1 hown hfit hnm (C0.w t1 args) (C0.gp _ hini args) hsa (fun w hw => C0.gp w (hat w hw) args) hgood b5 b6 F.1.2.2.1 (F.lz C0).symm d0 d3 d4 d7 d10 (fun y hy => (hnt y hy).elim) (by show 2 + 3 < R.frames; omega) hloc hcells hslots hlk (fun t _ h1 h2 => xc_ok F h1 h2) F.1.2.2.1.2.2 (Nat.le_of_eq e1.symm) (Nat.le_of_eq e2.symm)
end STEP15
