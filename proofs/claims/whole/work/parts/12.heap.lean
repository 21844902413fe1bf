/-! SOUNDNESS: branches, fields, arrays, statics -/
def tyT : List (Nat → FieldType) := [tyJ0, tyJ4, tyJx00060, tyJx7c733, tyX0, tyX1, tyX2, tyX3, tyX4, tyX5, tyX6, tyX7, tyX8]
def tyC (c : Nat) : Nat → FieldType := tyT.getD c (fun _ => .int)
theorem lay_0 : ∀ k, k < 4 → u_lay (clC 0).1 (clC 0).2.1 k ∈ GB := fun k hk => match k, hk with
  | 0, _ => wAt_ok (z := 1453) rfl
  | 1, _ => wAt_ok (z := 1454) rfl
  | 2, _ => wAt_ok (z := 1455) rfl
  | 3, _ => wAt_ok (z := 1456) rfl
  | q + 4, h => absurd h (by omega)
theorem lay_1 : ∀ k, k < 4 → u_lay (clC 1).1 (clC 1).2.1 k ∈ GB := fun k hk => match k, hk with
  | 0, _ => wAt_ok (z := 1457) rfl
  | 1, _ => wAt_ok (z := 1458) rfl
  | 2, _ => wAt_ok (z := 1459) rfl
  | 3, _ => wAt_ok (z := 1460) rfl
  | q + 4, h => absurd h (by omega)
theorem lay_4 : ∀ k, k < 12 → u_lay (clC 4).1 (clC 4).2.1 k ∈ GB := fun k hk => match k, hk with
  | 0, _ => wAt_ok (z := 1461) rfl
  | 1, _ => wAt_ok (z := 1462) rfl
  | 2, _ => wAt_ok (z := 1463) rfl
  | 3, _ => wAt_ok (z := 1464) rfl
  | 4, _ => wAt_ok (z := 1465) rfl
  | 5, _ => wAt_ok (z := 1466) rfl
  | 6, _ => wAt_ok (z := 1467) rfl
  | 7, _ => wAt_ok (z := 1468) rfl
  | 8, _ => wAt_ok (z := 1469) rfl
  | 9, _ => wAt_ok (z := 1470) rfl
  | 10, _ => wAt_ok (z := 1471) rfl
  | 11, _ => wAt_ok (z := 1472) rfl
  | q + 12, h => absurd h (by omega)
theorem lay_5 : ∀ k, k < 3 → u_lay (clC 5).1 (clC 5).2.1 k ∈ GB := fun k hk => match k, hk with
  | 0, _ => wAt_ok (z := 1473) rfl
  | 1, _ => wAt_ok (z := 1474) rfl
  | 2, _ => wAt_ok (z := 1475) rfl
  | q + 3, h => absurd h (by omega)
theorem lay_6 : ∀ k, k < 5 → u_lay (clC 6).1 (clC 6).2.1 k ∈ GB := fun k hk => match k, hk with
  | 0, _ => wAt_ok (z := 1476) rfl
  | 1, _ => wAt_ok (z := 1477) rfl
  | 2, _ => wAt_ok (z := 1478) rfl
  | 3, _ => wAt_ok (z := 1479) rfl
  | 4, _ => wAt_ok (z := 1480) rfl
  | q + 5, h => absurd h (by omega)
theorem lay_7 : ∀ k, k < 5 → u_lay (clC 7).1 (clC 7).2.1 k ∈ GB := fun k hk => match k, hk with
  | 0, _ => wAt_ok (z := 1481) rfl
  | 1, _ => wAt_ok (z := 1482) rfl
  | 2, _ => wAt_ok (z := 1483) rfl
  | 3, _ => wAt_ok (z := 1484) rfl
  | 4, _ => wAt_ok (z := 1485) rfl
  | q + 5, h => absurd h (by omega)
theorem lay_8 : ∀ k, k < 7 → u_lay (clC 8).1 (clC 8).2.1 k ∈ GB := fun k hk => match k, hk with
  | 0, _ => wAt_ok (z := 1486) rfl
  | 1, _ => wAt_ok (z := 1487) rfl
  | 2, _ => wAt_ok (z := 1488) rfl
  | 3, _ => wAt_ok (z := 1489) rfl
  | 4, _ => wAt_ok (z := 1490) rfl
  | 5, _ => wAt_ok (z := 1491) rfl
  | 6, _ => wAt_ok (z := 1492) rfl
  | q + 7, h => absurd h (by omega)
theorem lay_9 : ∀ k, k < 3 → u_lay (clC 9).1 (clC 9).2.1 k ∈ GB := fun k hk => match k, hk with
  | 0, _ => wAt_ok (z := 1493) rfl
  | 1, _ => wAt_ok (z := 1494) rfl
  | 2, _ => wAt_ok (z := 1495) rfl
  | q + 3, h => absurd h (by omega)
theorem lay_10 : ∀ k, k < 6 → u_lay (clC 10).1 (clC 10).2.1 k ∈ GB := fun k hk => match k, hk with
  | 0, _ => wAt_ok (z := 1496) rfl
  | 1, _ => wAt_ok (z := 1497) rfl
  | 2, _ => wAt_ok (z := 1498) rfl
  | 3, _ => wAt_ok (z := 1499) rfl
  | 4, _ => wAt_ok (z := 1500) rfl
  | 5, _ => wAt_ok (z := 1501) rfl
  | q + 6, h => absurd h (by omega)
theorem lay_11 : ∀ k, k < 7 → u_lay (clC 11).1 (clC 11).2.1 k ∈ GB := fun k hk => match k, hk with
  | 0, _ => wAt_ok (z := 1502) rfl
  | 1, _ => wAt_ok (z := 1503) rfl
  | 2, _ => wAt_ok (z := 1504) rfl
  | 3, _ => wAt_ok (z := 1505) rfl
  | 4, _ => wAt_ok (z := 1506) rfl
  | 5, _ => wAt_ok (z := 1507) rfl
  | 6, _ => wAt_ok (z := 1508) rfl
  | q + 7, h => absurd h (by omega)
theorem lay_12 : ∀ k, k < 17 → u_lay (clC 12).1 (clC 12).2.1 k ∈ GB := fun k hk => match k, hk with
  | 0, _ => wAt_ok (z := 1509) rfl
  | 1, _ => wAt_ok (z := 1510) rfl
  | 2, _ => wAt_ok (z := 1511) rfl
  | 3, _ => wAt_ok (z := 1512) rfl
  | 4, _ => wAt_ok (z := 1513) rfl
  | 5, _ => wAt_ok (z := 1514) rfl
  | 6, _ => wAt_ok (z := 1515) rfl
  | 7, _ => wAt_ok (z := 1516) rfl
  | 8, _ => wAt_ok (z := 1517) rfl
  | 9, _ => wAt_ok (z := 1518) rfl
  | 10, _ => wAt_ok (z := 1519) rfl
  | 11, _ => wAt_ok (z := 1520) rfl
  | 12, _ => wAt_ok (z := 1521) rfl
  | 13, _ => wAt_ok (z := 1522) rfl
  | 14, _ => wAt_ok (z := 1523) rfl
  | 15, _ => wAt_ok (z := 1524) rfl
  | 16, _ => wAt_ok (z := 1525) rfl
  | q + 17, h => absurd h (by omega)
def clP (c : Nat) : Prop := vwCl[c]? = some (clC c) ∧ (clC c).2.2 = nfl c ∧ (∀ k, k < nfl c → parseFieldDescriptor ((clC c).2.1 k).2.2.1 = some (tyC c k)) ∧ (∀ a, a < nfl c → ∀ b, b < nfl c → a ≠ b → ((clC c).2.1 a).2.1 ≠ ((clC c).2.1 b).2.1) ∧ ∀ w ∈ u_ws (clC c).1 (clC c).2.1 (nfl c), w ∈ GB
theorem lay_all {c N : Nat} (h : ∀ k, k < N → u_lay (clC c).1 (clC c).2.1 k ∈ GB) : ∀ w ∈ u_ws (clC c).1 (clC c).2.1 N, w ∈ GB := fun w hw => by
  obtain ⟨k, hk, rfl⟩ := List.mem_map.mp hw
  exact h k (List.mem_range.mp hk)
theorem cl_ok : ∀ c, 0 < nfl c → clP c
  | 0, _ => ⟨rfl, rfl, tyJ0_ok, nmJ0, lay_all lay_0⟩
  | 1, _ => ⟨rfl, rfl, tyJ4_ok, nmJ4, lay_all lay_1⟩
  | 2, h => absurd h (by decide)
  | 3, h => absurd h (by decide)
  | 4, _ => ⟨rfl, rfl, tyX0_ok, nmX0, lay_all lay_4⟩
  | 5, _ => ⟨rfl, rfl, tyX1_ok, nmX1, lay_all lay_5⟩
  | 6, _ => ⟨rfl, rfl, tyX2_ok, nmX2, lay_all lay_6⟩
  | 7, _ => ⟨rfl, rfl, tyX3_ok, nmX3, lay_all lay_7⟩
  | 8, _ => ⟨rfl, rfl, tyX4_ok, nmX4, lay_all lay_8⟩
  | 9, _ => ⟨rfl, rfl, tyX5_ok, nmX5, lay_all lay_9⟩
  | 10, _ => ⟨rfl, rfl, tyX6_ok, nmX6, lay_all lay_10⟩
  | 11, _ => ⟨rfl, rfl, tyX7_ok, nmX7, lay_all lay_11⟩
  | 12, _ => ⟨rfl, rfl, tyX8_ok, nmX8, lay_all lay_12⟩
  | q + 13, h => absurd h (by rw [show nfl (q + 13) = 0 from by (unfold nfl skT; simp)]; exact Nat.lt_irrefl 0)
def refT (t : FieldType) : Bool := match t with
  | .object _ => true
  | .array _ => true
  | _ => false
theorem sk_ty : ∀ c, c < 13 → ∀ k, k < nfl c → (sk c k = 0 → tyC c k = .int) ∧ (sk c k = 3 → tyC c k = .boolean) ∧ (sk c k = 4 → tyC c k = .byte) ∧ (sk c k = 1 → refT (tyC c k) = true) ∧ (sk c k = 2 → refT (tyC c k) = true) := by decide +kernel
theorem nfl_lt {c k : Nat} (h : k < nfl c) : c < 13 := by
  rcases Nat.lt_or_ge c 13 with q | q
  · exact q
  · exfalso
    have e : nfl c = 0 := by
      unfold nfl
      rw [List.getD_eq_getElem?_getD, List.getElem?_eq_none (by show 13 ≤ c; exact q)]
      rfl
    omega
section STEP2
variable {K : KX} {M : Nat} {p : Program} {l : Launch} {e : Env} {R : Room} {s : State} {m : MethodId} {args : Array Value} {below : List Frame} {meth : Method} {c : Code} {Q : State → Prop} {S0 : SS} {ρ0 : OId → Nat}
variable {ρ : OId → Nat} {H H0 : Heap} {locs : List Loc} {ls : Array Slot} {L : List (Option AV)} {L2 : List (Nat × AV)} {St : List AV} {S : SS} {pc n : Nat} {z : Int} {r : Nat × Nat × Nat × Nat}
theorem g_if {k : Jvm.ClassFile.Cond} {off : Int} {t : Nat} {x : Int32} (C0 : Cx K M p l s m meth c) (hd : decode (mtC M) pc = .ok (.ifCond k off, 3)) (ht : (pc : Int) + off = (t : Int)) (kk : Gd K M p l e R s m args below meth c Q S0 ρ0 ((if cnd k x 0 = true then t else pc + 3), L, L2, St, S)) : Gd K M p l e R s m args below meth c Q S0 ρ0 (pc, L, L2, aI x :: St, S) := by
  intro ρ H locs ls F
  have h := kk ρ H locs ls F.pop
  cases k
  · refine lv_if_eq C0.1 C0.2.1 hd ht (fun q => ?_) (fun q => ?_)
    · rw [show (if cnd .eq x 0 = true then t else pc + 3) = t from if_pos (decide_eq_true q)] at h
      exact h
    · rw [show (if cnd .eq x 0 = true then t else pc + 3) = pc + 3 from if_neg (by rw [show cnd .eq x 0 = false from decide_eq_false q]; exact Bool.false_ne_true)] at h
      exact h
  · refine lv_if_ne C0.1 C0.2.1 hd ht (fun q => ?_) (fun q => ?_)
    · rw [show (if cnd .ne x 0 = true then t else pc + 3) = t from if_pos (decide_eq_true q)] at h
      exact h
    · rw [show (if cnd .ne x 0 = true then t else pc + 3) = pc + 3 from if_neg (by rw [show cnd .ne x 0 = false from decide_eq_false (fun w => w q)]; exact Bool.false_ne_true)] at h
      exact h
  · refine lv_if_lt C0.1 C0.2.1 hd ht (fun q => ?_) (fun q => ?_)
    · rw [show (if cnd .lt x 0 = true then t else pc + 3) = t from if_pos (decide_eq_true q)] at h
      exact h
    · rw [show (if cnd .lt x 0 = true then t else pc + 3) = pc + 3 from if_neg (by rw [show cnd .lt x 0 = false from decide_eq_false q]; exact Bool.false_ne_true)] at h
      exact h
  · refine lv_if_ge C0.1 C0.2.1 hd ht (fun q => ?_) (fun q => ?_)
    · rw [show (if cnd .ge x 0 = true then t else pc + 3) = t from if_pos (decide_eq_true q)] at h
      exact h
    · rw [show (if cnd .ge x 0 = true then t else pc + 3) = pc + 3 from if_neg (by rw [show cnd .ge x 0 = false from decide_eq_false q]; exact Bool.false_ne_true)] at h
      exact h
  · refine lv_if_gt C0.1 C0.2.1 hd ht (fun q => ?_) (fun q => ?_)
    · rw [show (if cnd .gt x 0 = true then t else pc + 3) = t from if_pos (decide_eq_true q)] at h
      exact h
    · rw [show (if cnd .gt x 0 = true then t else pc + 3) = pc + 3 from if_neg (by rw [show cnd .gt x 0 = false from decide_eq_false q]; exact Bool.false_ne_true)] at h
      exact h
  · refine lv_if_le C0.1 C0.2.1 hd ht (fun q => ?_) (fun q => ?_)
    · rw [show (if cnd .le x 0 = true then t else pc + 3) = t from if_pos (decide_eq_true q)] at h
      exact h
    · rw [show (if cnd .le x 0 = true then t else pc + 3) = pc + 3 from if_neg (by rw [show cnd .le x 0 = false from decide_eq_false q]; exact Bool.false_ne_true)] at h
      exact h
theorem g_icmp {k : Jvm.ClassFile.Cond} {off : Int} {t : Nat} {x y : Int32} (C0 : Cx K M p l s m meth c) (hd : decode (mtC M) pc = .ok (.if_icmp k off, 3)) (ht : (pc : Int) + off = (t : Int)) (kk : Gd K M p l e R s m args below meth c Q S0 ρ0 ((if cnd k x y = true then t else pc + 3), L, L2, St, S)) : Gd K M p l e R s m args below meth c Q S0 ρ0 (pc, L, L2, aI y :: aI x :: St, S) := by
  intro ρ H locs ls F
  have h := kk ρ H locs ls F.pop.pop
  cases k
  · refine lv_icmp_eq C0.1 C0.2.1 hd ht (fun q => ?_) (fun q => ?_)
    · rw [show (if cnd .eq x y = true then t else pc + 3) = t from if_pos (decide_eq_true q)] at h
      exact h
    · rw [show (if cnd .eq x y = true then t else pc + 3) = pc + 3 from if_neg (by rw [show cnd .eq x y = false from decide_eq_false q]; exact Bool.false_ne_true)] at h
      exact h
  · refine lv_icmp_ne C0.1 C0.2.1 hd ht (fun q => ?_) (fun q => ?_)
    · rw [show (if cnd .ne x y = true then t else pc + 3) = t from if_pos (decide_eq_true q)] at h
      exact h
    · rw [show (if cnd .ne x y = true then t else pc + 3) = pc + 3 from if_neg (by rw [show cnd .ne x y = false from decide_eq_false (fun w => w q)]; exact Bool.false_ne_true)] at h
      exact h
  · refine lv_icmp_lt C0.1 C0.2.1 hd ht (fun q => ?_) (fun q => ?_)
    · rw [show (if cnd .lt x y = true then t else pc + 3) = t from if_pos (decide_eq_true q)] at h
      exact h
    · rw [show (if cnd .lt x y = true then t else pc + 3) = pc + 3 from if_neg (by rw [show cnd .lt x y = false from decide_eq_false q]; exact Bool.false_ne_true)] at h
      exact h
  · refine lv_icmp_ge C0.1 C0.2.1 hd ht (fun q => ?_) (fun q => ?_)
    · rw [show (if cnd .ge x y = true then t else pc + 3) = t from if_pos (decide_eq_true q)] at h
      exact h
    · rw [show (if cnd .ge x y = true then t else pc + 3) = pc + 3 from if_neg (by rw [show cnd .ge x y = false from decide_eq_false q]; exact Bool.false_ne_true)] at h
      exact h
  · refine lv_icmp_gt C0.1 C0.2.1 hd ht (fun q => ?_) (fun q => ?_)
    · rw [show (if cnd .gt x y = true then t else pc + 3) = t from if_pos (decide_eq_true q)] at h
      exact h
    · rw [show (if cnd .gt x y = true then t else pc + 3) = pc + 3 from if_neg (by rw [show cnd .gt x y = false from decide_eq_false q]; exact Bool.false_ne_true)] at h
      exact h
  · refine lv_icmp_le C0.1 C0.2.1 hd ht (fun q => ?_) (fun q => ?_)
    · rw [show (if cnd .le x y = true then t else pc + 3) = t from if_pos (decide_eq_true q)] at h
      exact h
    · rw [show (if cnd .le x y = true then t else pc + 3) = pc + 3 from if_neg (by rw [show cnd .le x y = false from decide_eq_false q]; exact Bool.false_ne_true)] at h
      exact h
theorem g_tsO {d lo hi : Int} {offs : Array Int} {x : Int32} {t : Nat} (C0 : Cx K M p l s m meth c) (hd : decode (mtC M) pc = .ok (.tableswitch d lo hi offs, n)) (h : x.toInt < lo ∨ hi < x.toInt) (ht : (pc : Int) + d = (t : Int)) (k : Gd K M p l e R s m args below meth c Q S0 ρ0 (t, L, L2, St, S)) : Gd K M p l e R s m args below meth c Q S0 ρ0 (pc, L, L2, aI x :: St, S) := by
  intro ρ H locs ls F
  exact lv_tableOut C0.1 C0.2.1 hd h ht (k ρ H locs ls F.pop)
theorem g_tsI {d lo hi off : Int} {offs : Array Int} {x : Int32} {t : Nat} (C0 : Cx K M p l s m meth c) (hd : decode (mtC M) pc = .ok (.tableswitch d lo hi offs, n)) (h : ¬ (x.toInt < lo ∨ hi < x.toInt)) (ho : offs[(x.toInt - lo).toNat]? = some off) (ht : (pc : Int) + off = (t : Int)) (k : Gd K M p l e R s m args below meth c Q S0 ρ0 (t, L, L2, St, S)) : Gd K M p l e R s m args below meth c Q S0 ρ0 (pc, L, L2, aI x :: St, S) := by
  intro ρ H locs ls F
  exact lv_tableIn C0.1 C0.2.1 hd (fun q => h (Or.inl q)) (fun q => h (Or.inr q)) ho ht (k ρ H locs ls F.pop)
theorem av_ref {o : OId} (h : ¬ o.1 = 48) : av K ρ (aR o) = .ref (ad K ρ o) := by
  unfold av
  simp only [if_neg h]
theorem g_ifnull {o : OId} {off : Int} (C0 : Cx K M p l s m meth c) (hd : decode (mtC M) pc = .ok (.ifnull off, 3)) (ho : ¬ o.1 = 48) (k : Gd K M p l e R s m args below meth c Q S0 ρ0 (pc + 3, L, L2, St, S)) : Gd K M p l e R s m args below meth c Q S0 ρ0 (pc, L, L2, aR o :: St, S) := by
  intro ρ H locs ls F
  show W p l e R s m args below meth c H locs _ _ Q (F0 m pc ls (av K ρ (aR o) :: St.map (av K ρ)))
  rw [av_ref ho]
  exact lv_ifnull C0.1 C0.2.1 hd (k ρ H locs ls F.pop)
theorem g_ifnullN {off : Int} {t : Nat} (C0 : Cx K M p l s m meth c) (hd : decode (mtC M) pc = .ok (.ifnull off, 3)) (ht : (pc : Int) + off = (t : Int)) (k : Gd K M p l e R s m args below meth c Q S0 ρ0 (t, L, L2, St, S)) : Gd K M p l e R s m args below meth c Q S0 ρ0 (pc, L, L2, aN :: St, S) := by
  intro ρ H locs ls F
  exact lv_ifnullN C0.1 C0.2.1 hd ht (k ρ H locs ls F.pop)
theorem g_ifnonnull {o : OId} {off : Int} {t : Nat} (C0 : Cx K M p l s m meth c) (hd : decode (mtC M) pc = .ok (.ifnonnull off, 3)) (ht : (pc : Int) + off = (t : Int)) (ho : ¬ o.1 = 48) (k : Gd K M p l e R s m args below meth c Q S0 ρ0 (t, L, L2, St, S)) : Gd K M p l e R s m args below meth c Q S0 ρ0 (pc, L, L2, aR o :: St, S) := by
  intro ρ H locs ls F
  show W p l e R s m args below meth c H locs _ _ Q (F0 m pc ls (av K ρ (aR o) :: St.map (av K ρ)))
  rw [av_ref ho]
  exact lv_ifnonnull C0.1 C0.2.1 hd ht (k ρ H locs ls F.pop)
theorem g_ifnonnullN {off : Int} (C0 : Cx K M p l s m meth c) (hd : decode (mtC M) pc = .ok (.ifnonnull off, 3)) (k : Gd K M p l e R s m args below meth c Q S0 ρ0 (pc + 3, L, L2, St, S)) : Gd K M p l e R s m args below meth c Q S0 ρ0 (pc, L, L2, aN :: St, S) := by
  intro ρ H locs ls F
  exact lv_ifnonnullN C0.1 C0.2.1 hd (k ρ H locs ls F.pop)
theorem Cx.gp (C0 : Cx K M p l s m meth c) : GP s := C0.2.2.2.2.1.1
theorem Cx.vk (C0 : Cx K M p l s m meth c) : va_K (xD K) vwCl (xTy K) s := C0.2.2.2.2.1.2.1
theorem Cx.w (C0 : Cx K M p l s m meth c) {w : Cond} {i : Nat} (h : wAt i = some w) (a : Array Value) : w.before a s = true := C0.gp w (wAt_ok h) a
theorem Cx.ts (C0 : Cx K M p l s m meth c) (a : Array Value) : ∀ w ∈ GB, w.before a s = true := fun w hw => C0.gp w hw a
theorem Cx.str (C0 : Cx K M p l s m meth c) : vk_S 3 [2, 2, 2] [[32, 99], [32, 84], [32, 76]] (xk K) (xv K) (xA K) s s.heap := C0.2.2.2.2.1.2.2.2.2.2.1
/-- an object that the run knows of: made by it, or one of the constants -/
theorem Fs.live {o : OId} (F : Fs K M S0 ρ0 H0 ρ H locs ls L L2 St S) (h : okO K (lv S) o) (hr : isRo o = false) : o ∈ lv S := by
  rcases h with h | h
  · exact h
  · rcases h with rfl | rfl | rfl | ⟨i, -, rfl⟩ | ⟨i, -, rfl⟩ | rfl <;> cases hr
theorem elem_obj {o : OId} {k : Nat} (h : kOf o = .inl k) : elem K ρ S o = .inr (k, elF K ρ S o k) := by
  unfold elem
  rw [h]
theorem elem_arr {o : OId} {ty : FieldType} {k : Nat} (h : kOf o = .inr (ty, k)) : elem K ρ S o = .inl (xt K ty, k, elA K ρ S o ty) := by
  unfold elem
  rw [h]
theorem elF_at {o : OId} {k q : Nat} (h : q < nfl k) : (elF K ρ S o k)[q]? = some (av K ρ (fget S k q o)) := by
  unfold elF
  rw [List.getElem?_map, List.getElem?_range h]
  rfl
theorem isRo_48 {o : OId} (h : isRo o = false) : ¬ o.1 = 48 := by
  intro q
  unfold isRo at h
  rw [q] at h
  cases h
theorem kOf_ro {K : KX} {o : OId} {k : Nat} (h : roK K o) (hk : kOf o = .inl k) (hn : 0 < nfl k) : k = 0 ∧ ∃ i, i < 3 ∧ o = (0, i, 1) := by
  rcases h with rfl | rfl | rfl | ⟨i, -, rfl⟩ | ⟨i, hi, rfl⟩ | rfl
  · cases hk
  · cases hk
  · cases hk
  · cases hk
  · cases hk
    exact ⟨rfl, i, hi, rfl⟩
  · cases hk
    exact absurd hn (by decide)
theorem g_getfield {i a q9 nest : Nat} {o : OId} {zz : Nat} (C0 : Cx K M p l s m meth c) (hd : decode (mtC M) pc = .ok (.getfield i, 3)) (hk : kOf o = .inl a) (hq : q9 < nfl a) (h0 : a = 0 → q9 < 2) (hw : wAt zz = some (fldW (mtY M).cls i a q9 nest)) (k : Gd K M p l e R s m args below meth c Q S0 ρ0 (pc + 3, L, L2, fget S a q9 o :: St, S)) : Gd K M p l e R s m args below meth c Q S0 ρ0 (pc, L, L2, aR o :: St, S) := by
  intro ρ H locs ls F
  obtain ⟨hc1, hc2, hc3, hc4, hc5⟩ := cl_ok a (by omega)
  have hcl : vwCl[a]? = some ((clC a).1, (clC a).2.1, nfl a) := by rw [hc1, ← hc2]
  have hlw := C0.w hw args
  rcases F.t1.1 o rfl with ho | ho
  · obtain ⟨j, hj, hjw⟩ := ws_at (K := K) (ρ := ρ) ho
    rw [elem_obj hk] at hjw
    have hro := F.1.2.1.2.1 o ho
    have hok : okA K (lv S) (fget S a q9 o) := by
      have h4 := F.1.2.1.2.2.2.1 o ho q9
      have hR : okA K (lv S) (S.2.2.1 o q9) := h4.2.1
      unfold fget
      split
      · split
        · rename_i h1
          exfalso
          have hz : o.1 = 0 := by
            unfold kOf at hk
            split at hk <;> simp_all
          have : isRo o = true := by
            unfold isRo
            rw [hz]
            simpa using h1
          rw [hro] at this; cases this
        · split <;> first | exact okA_inl | exact hR | exact h4.1
      · split <;> first | exact okA_inl | exact hR | exact h4.1
    have kk := k ρ H locs ls (F.stk (ok_c hok F.t1.2))
    show W p l e R s m args below meth c H locs _ _ Q (F0 m pc ls (av K ρ (aR o) :: St.map (av K ρ)))
    rw [av_ref (isRo_48 hro), ad_live hro]
    by_cases hn : nest = 0
    · have hl : (Cond.fieldLink (mtY M).cls i ((clC a).2.1 q9).1 ((clC a).2.1 q9).2.1 ((clC a).2.1 q9).2.2.1).before args s = true := by
        have := hlw
        unfold fldW at this
        rw [if_pos hn] at this
        exact this
      exact va_get (ci := a) C0.1 C0.2.1 (C0.ts args) hc5 C0.2.2.2.1 C0.vk F.1.1.1 j hjw hcl q9 hq hl (fun _ h => h) (elF_at hq) hd kk
    · have hl : (Cond.fieldLinkNest (mtY M).cls i ((clC a).2.1 q9).1 ((clC a).2.1 q9).2.1 ((clC a).2.1 q9).2.2.1 "FrequencyOffice").before args s = true := by
        have := hlw
        unfold fldW at this
        rw [if_neg hn] at this
        exact this
      exact va_getN (ci := a) C0.1 C0.2.1 (C0.ts args) hc5 C0.2.2.2.1 C0.vk F.1.1.1 j hjw hcl q9 hq hl (fun _ h => h) (elF_at hq) hd kk
  · obtain ⟨rfl, i3, hi3, rfl⟩ := kOf_ro ho hk (by omega)
    have hs := C0.str.1 i3 hi3
    have fin : ∀ (nm ds : String) (v : Value), va_OF "java/lang/String" nm ds v (xk K i3) (xA K) s s.heap → (((clC 0).2.1 q9).1, ((clC 0).2.1 q9).2.1, ((clC 0).2.1 q9).2.2.1) = ("java/lang/String", nm, ds) → av K ρ (fget S 0 q9 (0, i3, 1)) = v → W p l e R s m args below meth c H locs (cel S - cel S0) (slo S - slo S0) Q (F0 m pc ls (.ref (xk K i3) :: St.map (av K ρ))) := by
      intro nm ds v hof hn3 hv
      have kk := k ρ H locs ls (F.stk (ok_c (by
        have : q9 = 0 ∨ q9 = 1 := by have := h0 rfl; omega
        rcases this with rfl | rfl
        · exact okA_inr (Or.inr (Or.inr (Or.inr (Or.inr (Or.inl ⟨i3, hi3, rfl⟩)))))
        · exact okA_inl) F.t1.2))
      have kk2 : W p l e R s m args below meth c H locs (cel S - cel S0) (slo S - slo S0) Q (F0 m (pc + 3) ls (v :: St.map (av K ρ))) := by rw [← hv]; exact kk
      simp only [Prod.mk.injEq] at hn3
      by_cases hn : nest = 0
      · have hl : (Cond.fieldLink (mtY M).cls i "java/lang/String" nm ds).before args s = true := by
          have := hlw
          unfold fldW at this
          rw [if_pos hn, hn3.1, hn3.2.1, hn3.2.2] at this
          exact this
        exact vk_getf C0.1 C0.2.1 hof F.1.2.2.1 C0.2.2.2.1 hl (fun _ h => h) hd kk2
      · have hl : (Cond.fieldLinkNest (mtY M).cls i "java/lang/String" nm ds "FrequencyOffice").before args s = true := by
          have := hlw
          unfold fldW at this
          rw [if_neg hn, hn3.1, hn3.2.1, hn3.2.2] at this
          exact this
        obtain ⟨cf, kf, fi, f, cell, e1, e2, e3, e4, e5, e6⟩ := hof
        exact va_Wgetf C0.1 C0.2.1 C0.2.2.2.1 hl e1 e2 (by rw [F.1.2.2.1.2.1 _ (Array.getElem?_eq_some_iff.mp e3).1 e6]; exact e3) e4 e5 rfl rfl hd kk2
    show W p l e R s m args below meth c H locs _ _ Q (F0 m pc ls (.ref (xk K i3) :: St.map (av K ρ)))
    have : q9 = 0 ∨ q9 = 1 := by have := h0 rfl; omega
    rcases this with rfl | rfl
    · exact fin "value" "[B" (.ref (xv K i3)) hs.2.2.1 rfl rfl
    · exact fin "coder" "B" (.int 0) hs.2.1 rfl rfl

end STEP2
