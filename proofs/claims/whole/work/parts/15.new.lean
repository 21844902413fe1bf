/-! SOUNDNESS: constants, statics, what is new -/
def tchk (q : Nat × IE) : Bool := match q.2.1 with
  | .getfield _ => !(q.2.2.2.1.1 == 0) || decide (q.2.2.2.1.2.1 < 2)
  | .new _ => !(q.2.2.2.1.2.2.1 == 0) || decide (0 < nfl q.2.2.2.1.1) || q.2.2.2.1.1 == 3
  | .getstatic _ => decide (q.2.2.2.1.1 < 4)
  | .anewarray _ => decide (q.2.2.2.1.1 < 2)
  | _ => true
set_option maxRecDepth 100000 in
theorem tchk_all : (mT.all fun row => row.all fun e => e.2.2.2.2.2.all fun l => l.all tchk) = true := by decide +kernel
theorem tchk_of {M pc : Nat} {q : IE} (h : insAt M pc = some q) : tchk (pc, q) = true := by
  obtain ⟨row, hr, he⟩ := mE_mem M
  unfold insAt at h
  have hm := lk_mem h
  by_cases hz : pc / 64 < (mtI M).length
  · rw [List.getD_eq_getElem?_getD, List.getElem?_eq_getElem hz] at hm
    exact List.all_eq_true.mp (List.all_eq_true.mp (List.all_eq_true.mp (List.all_eq_true.mp tchk_all row hr) _ he) _ (List.getElem_mem hz)) _ hm
  · rw [List.getD_eq_getElem?_getD, List.getElem?_eq_none (Nat.le_of_not_lt hz)] at hm
    exact absurd hm List.not_mem_nil
section STEP5
variable {K : KX} {M : Nat} {p : Program} {l : Launch} {e : Env} {R : Room} {s : State} {m : MethodId} {args : Array Value} {below : List Frame} {meth : Method} {c : Code} {Q : State → Prop} {S0 : SS} {ρ0 : OId → Nat}
variable {ρ : OId → Nat} {H H0 H1 : Heap} {locs locs1 : List Loc} {ls : Array Slot} {L : List (Option AV)} {L2 : List (Nat × AV)} {St : List AV} {S : SS} {pc n : Nat} {z : Int} {r : Nat × Nat × Nat × Nat}
theorem g_fconst0 (C0 : Cx K M p l s m meth c) (hd : decode (mtC M) pc = .ok (.fconst 0, 1)) (k : Gd K M p l e R s m args below meth c Q S0 ρ0 (pc + 1, L, L2, aF 0 :: St, S)) : Gd K M p l e R s m args below meth c Q S0 ρ0 (pc, L, L2, St, S) := by
  intro ρ H locs ls F
  exact lv_fconst0 C0.1 C0.2.1 hd (k ρ H locs ls F.push)
theorem g_ldcI {i : Nat} {v : Int32} {zz : Nat} (C0 : Cx K M p l s m meth c) (hd : decode (mtC M) pc = .ok (.ldc i, 2)) (hw : wAt zz = some (.constant (mtY M).cls i v)) (k : Gd K M p l e R s m args below meth c Q S0 ρ0 (pc + 2, L, L2, aI v :: St, S)) : Gd K M p l e R s m args below meth c Q S0 ρ0 (pc, L, L2, St, S) := by
  intro ρ H locs ls F
  exact lv_ldc C0.1 C0.2.1 C0.2.2.2.1 (C0.w hw args) hd (k ρ H locs ls F.push)
theorem g_ldc2 {i : Nat} {v : Int64} {zz : Nat} (C0 : Cx K M p l s m meth c) (hd : decode (mtC M) pc = .ok (.ldc2_w i, 3)) (hw : wAt zz = some (.constantLong (mtY M).cls i v)) (k : Gd K M p l e R s m args below meth c Q S0 ρ0 (pc + 3, L, L2, aL v :: St, S)) : Gd K M p l e R s m args below meth c Q S0 ρ0 (pc, L, L2, St, S) := by
  intro ρ H locs ls F
  exact lv_ldc2 C0.1 C0.2.1 C0.2.2.2.1 (C0.w hw args) hd (k ρ H locs ls F.push)
theorem g_ldcS {j : Nat} (C0 : Cx K M p l s m meth c) (hj : j < 3) (hcl : (mtY M).cls = "FrequencyOffice") (hd : decode (mtC M) pc = .ok (.ldc (([312, 317, 319] : List Nat).getD j 0), 2)) (k : Gd K M p l e R s m args below meth c Q S0 ρ0 (pc + 2, L, L2, aR (0, j, 1) :: St, S)) : Gd K M p l e R s m args below meth c Q S0 ρ0 (pc, L, L2, St, S) := by
  intro ρ H locs ls F
  obtain ⟨-, -, -, -, -, -, -, -, -, -, -, -, -, -, -, b7, -⟩ := C0.2.2.2.2.1
  have hown := C0.2.2.2.1
  rw [hcl] at hown
  exact va_ldcS C0.1 C0.2.1 hown (b7 j hj) hd (k ρ H locs ls (F.stk (ok_c (okA_inr (Or.inr (Or.inr (Or.inr (Or.inr (Or.inr (Or.inl ⟨j, hj, rfl⟩))))))) F.2.2)))
def stV (a : Nat) : AV := match a with
  | 0 => aI 1
  | 1 => aR (45, 0, 0)
  | 2 => aR (46, 0, 0)
  | _ => aR (48, 0, 0)
theorem g_getstatic {i a zz : Nat} (C0 : Cx K M p l s m meth c) (ha : a < 4) (hd : decode (mtC M) pc = .ok (.getstatic i, 3)) (hw : wAt zz = some (.fieldLink (mtY M).cls i (stF a).1 (stF a).2.1 (stF a).2.2)) (k : Gd K M p l e R s m args below meth c Q S0 ρ0 (pc + 3, L, L2, stV a :: St, S)) : Gd K M p l e R s m args below meth c Q S0 ρ0 (pc, L, L2, St, S) := by
  intro ρ H locs ls F
  obtain ⟨-, -, -, -, -, -, -, -, a9, b1, b2, b3, -⟩ := C0.2.2.2.2.1
  have hl := C0.w hw args
  have hok : okA K (lv S) (stV a) := by
    rcases (by omega : a = 0 ∨ a = 1 ∨ a = 2 ∨ a = 3) with rfl | rfl | rfl | rfl
    · exact okA_inl
    · exact okA_inr (Or.inr (Or.inr (Or.inl rfl)))
    · exact okA_inr (Or.inr (Or.inr (Or.inr (Or.inl rfl))))
    · exact okA_inr (Or.inr (Or.inr (Or.inr (Or.inr (Or.inr (Or.inr rfl))))))
  have kk := k ρ H locs ls (F.stk (ok_c hok F.2.2))
  rcases (by omega : a = 0 ∨ a = 1 ∨ a = 2 ∨ a = 3) with rfl | rfl | rfl | rfl
  · exact va_gets C0.1 C0.2.1 a9 F.1.2.2.1 C0.2.2.2.1 hl (fun _ h => h) hd kk
  · exact va_gets C0.1 C0.2.1 b1 F.1.2.2.1 C0.2.2.2.1 hl (fun _ h => h) hd kk
  · exact va_gets C0.1 C0.2.1 b2 F.1.2.2.1 C0.2.2.2.1 hl (fun _ h => h) hd kk
  · exact va_gets C0.1 C0.2.1 b3 F.1.2.2.1 C0.2.2.2.1 hl (fun _ h => h) hd kk
end STEP5
