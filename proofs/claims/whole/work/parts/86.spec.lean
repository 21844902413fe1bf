/-! THE METHODS' MEANING: the class's least number of moves by its queue -/
def opq (q : Qy) (V : Vw) : Bool := (bestC V q).isSome
def rb (q : Qy) : Nat → Nat → List Vw → Option Nat
  | 0, m, W => if W.any (opq q) = true then some m else none
  | f + 1, m, W => if W.any (opq q) = true then some m else rb q f (m + 1) (W.flatMap (suc q))
def rbn (q : Qy) (f m : Nat) (W : List Vw) : Option Nat := match f with | 0 => none | f' + 1 => rb q f' (m + 1) W
theorem rb_eq {q : Qy} {f m : Nat} {W : List Vw} : rb q f m W = if W.any (opq q) = true then some m else rbn q f m (W.flatMap (suc q)) := by
  cases f <;> rfl
theorem rb_nil {q : Qy} : ∀ {f m : Nat}, rb q f m [] = none
  | 0, m => rfl
  | f + 1, m => by
    show (if False then some m else rb q f (m + 1) []) = none
    rw [if_neg (fun h => h)]
    exact rb_nil
theorem rbn_nil {q : Qy} {f m : Nat} : rbn q f m [] = none := by
  cases f with
  | zero => rfl
  | succ f => exact rb_nil
theorem best_ex {ok : Nat → Bool} {cost : Nat → Int32} {n : Nat} : (bestf ok cost n).isSome = true ↔ ∃ c, c < n ∧ ok c = true := by
  refine ⟨fun h => ?_, fun h => ?_⟩
  · obtain ⟨b, hb⟩ := Option.isSome_iff_exists.mp h
    exact ⟨b, bestf_lt hb⟩
  · obtain ⟨c, h1, h2⟩ := h
    obtain ⟨b, hb⟩ := bestf_some (cost := cost) h1 h2
    rw [hb]
    rfl
theorem omk_0 {V : Vw} {q : Qy} (h : SB V q (Ls V (qs q))) : (omk V q (Ls V (qs q)) = 0) = (opq q V = false) := by
  refine propext ⟨fun h0 => ?_, fun h0 => ?_⟩
  · cases ho : opq q V with
    | false => rfl
    | true =>
      obtain ⟨c, hc, hok⟩ := best_ex.mp ho
      have hz := (zero_bits _ omk_lt).mp h0 c hc
      rw [omk_bit h hc, hok] at hz
      cases hz
  · refine (zero_bits _ omk_lt).mpr (fun c hc => ?_)
    cases hb : (omk V q (Ls V (qs q))).testBit c with
    | false => rfl
    | true =>
      rw [omk_bit h hc] at hb
      have : opq q V = true := best_ex.mpr ⟨c, hc, hb⟩
      rw [this] at h0
      cases h0
theorem suc_mem {q : Qy} {V V' : Vw} : V' ∈ suc q V ↔ ∃ k c, k ∈ Ls V (qs q) ∧ c < 8 ∧ canM V q k c = true ∧ V' = chV V k c := by
  unfold suc
  rw [List.mem_flatMap]
  refine ⟨fun h => ?_, fun h => ?_⟩
  · obtain ⟨k, hk, h1⟩ := h
    rw [List.mem_flatMap] at h1
    obtain ⟨c, hc, h2⟩ := h1
    rw [List.mem_range] at hc
    by_cases hm : canM V q k c = true
    · rw [if_pos hm, List.mem_singleton] at h2
      exact ⟨k, c, hk, hc, hm, h2⟩
    · rw [if_neg hm] at h2
      cases h2
  · obtain ⟨k, c, hk, hc, hm, e⟩ := h
    refine ⟨k, hk, ?_⟩
    rw [List.mem_flatMap]
    exact ⟨c, List.mem_range.mpr hc, by rw [if_pos hm]; exact List.mem_singleton.mpr e⟩
theorem gs_ex {α : Type} {f : Nat → Option α} {r s : Nat} : (gs f r s).isSome = true ↔ ∃ k, s ≤ k ∧ k < s + r ∧ (f k).isSome = true := by
  refine ⟨fun h => ?_, fun h => ?_⟩
  · obtain ⟨a, ha⟩ := Option.isSome_iff_exists.mp h
    obtain ⟨k, h1, h2, h3⟩ := gs_some ha
    exact ⟨k, h1, h2, by rw [h3]; rfl⟩
  · obtain ⟨k, h1, h2, h3⟩ := h
    cases hg : gs f r s with
    | some a => rfl
    | none =>
      rw [gs_none hg k h1 h2] at h3
      cases h3
theorem dfs_s {q : Qy} {l : Nat} {V : Vw} : (dfs q (l + 1) V).isSome = (suc q V).any (fun V' => (dfs q l V').isSome) := by
  have key : (dfs q (l + 1) V).isSome = true ↔ (suc q V).any (fun V' => (dfs q l V').isSome) = true := by
    rw [List.any_eq_true]
    show (gs _ (vn V) 0).isSome = true ↔ _
    rw [gs_ex]
    refine ⟨fun h => ?_, fun h => ?_⟩
    · obtain ⟨k, -, hk, h1⟩ := h
      rw [gs_ex] at h1
      obtain ⟨c, -, hc, h2⟩ := h1
      by_cases hm : canM V q k c = true
      · rw [if_pos hm, Option.isSome_map] at h2
        have hk' : k ∈ Ls V (qs q) := by
          refine lsl_mem.mpr ⟨by omega, ?_, ?_⟩
          · unfold canM at hm
            simp only [Bool.and_eq_true] at hm
            exact hm.2.2.1
          · unfold canM at hm
            simp only [Bool.and_eq_true, decide_eq_true_eq] at hm
            exact hm.1
        exact ⟨chV V k c, suc_mem.mpr ⟨k, c, hk', by omega, hm, rfl⟩, h2⟩
      · rw [if_neg hm] at h2
        cases h2
    · obtain ⟨V', hV', h2⟩ := h
      obtain ⟨k, c, hk, hc, hm, rfl⟩ := suc_mem.mp hV'
      refine ⟨k, Nat.zero_le _, by have := ls_m k hk; omega, ?_⟩
      rw [gs_ex]
      exact ⟨c, Nat.zero_le _, by omega, by rw [if_pos hm, Option.isSome_map]; exact h2⟩
  exact Bool.eq_iff_iff.mpr key
theorem gs3 {α : Type} {f : Nat → Option α} : gs f 3 0 = (match f 0 with | some a => some a | none => (match f 1 with | some a => some a | none => f 2)) := by
  show (match f 0 with | some a => some a | none => gs f 2 1) = _
  cases f 0 with
  | some a => rfl
  | none =>
    show (match f 1 with | some a => some a | none => gs f 1 2) = (match f 1 with | some a => some a | none => f 2)
    cases f 1 with
    | some a => rfl
    | none =>
      show (match f 2 with | some a => some a | none => none) = f 2
      cases f 2 <;> rfl
theorem planF_rb {q : Qy} {V : Vw} : (planF q V).map (fun r => r.1.length) = rb q 2 0 [V] := by
  have h0 : opq q V = (dfs q 0 V).isSome := by
    show _ = ((bestC V q).map _).isSome
    rw [Option.isSome_map]
    rfl
  have e0 : (fun V => (dfs q 0 V).isSome) = opq q := by
    funext V
    show ((bestC V q).map _).isSome = _
    rw [Option.isSome_map]
    rfl
  have h1 : ([V].flatMap (suc q)).any (opq q) = (dfs q 1 V).isSome := by
    rw [dfs_s, e0]
    simp
  have h2 : (([V].flatMap (suc q)).flatMap (suc q)).any (opq q) = (dfs q 2 V).isSome := by
    rw [dfs_s, List.any_flatMap, ← e0]
    have : (fun V' => (dfs q 1 V').isSome) = fun V' => (suc q V').any (fun V => (dfs q 0 V).isSome) := by
      funext V'
      exact dfs_s
    rw [this]
    simp
  have hL : ∀ l r, dfs q l V = some r → r.1.length = l := fun l r h => (dfs_val h).1
  show (gs (fun l => dfs q l V) 3 0).map _ = (if [V].any (opq q) = true then some 0 else if ([V].flatMap (suc q)).any (opq q) = true then some 1 else if (([V].flatMap (suc q)).flatMap (suc q)).any (opq q) = true then some 2 else none)
  rw [h1, h2, show [V].any (opq q) = (dfs q 0 V).isSome by rw [← h0]; simp]
  rw [gs3]
  cases hd0 : dfs q 0 V with
  | some r => show some r.1.length = some 0; rw [hL 0 r hd0]
  | none =>
    cases hd1 : dfs q 1 V with
    | some r => show some r.1.length = some 1; rw [hL 1 r hd1]
    | none =>
      cases hd2 : dfs q 2 V with
      | some r => show some r.1.length = some 2; rw [hL 2 r hd2]
      | none => rfl
/-- the views that moves lead to -/
def St (q : Qy) (V V' : Vw) : Prop := (∀ k, vf V' k 0 = vf V k 0) ∧ (∀ a b, spv V' a b = spv V a b) ∧ (∀ k, sepS V' q k = sepS V q k) ∧ (∀ k x y, sqv V' k x y = sqv V k x y) ∧ (vn V' = vn V ∧ V'.1 = V.1) ∧ Ls V' (qs q) = Ls V (qs q) ∧ WV V' ∧ QB V' q
theorem st_rf {q : Qy} {V : Vw} (hW : WV V) (hQ : QB V q) : St q V V := ⟨fun _ => rfl, fun _ _ => rfl, fun _ => rfl, fun _ _ _ => rfl, ⟨rfl, rfl⟩, rfl, hW, hQ⟩
theorem st_suc {q : Qy} {V V' V'' : Vw} (h : St q V V') (hs : V'' ∈ suc q V') : St q V V'' := by
  obtain ⟨k, c, hk, hc, hm, rfl⟩ := suc_mem.mp hs
  obtain ⟨h1, h2, h3, h4, h5, h6, h7, h8⟩ := h
  exact ⟨fun j => (if_neg (by omega)).trans (h1 j), fun a b => spv_ch.trans (h2 a b), fun j => sepS_ch.trans (h3 j), fun j x y => sqv_ch.trans (h4 j x y), h5, ls_ch.trans h6, wv_ch h7 hc, h8⟩
def bnd (f h a b : Nat) : Prop := (f = 0 → h + a + b ≤ 2451) ∧ (f = 1 → h + a + b + 49 * a ≤ 2451) ∧ (2 ≤ f → h + a = 1 ∧ b + 49 * a ≤ 49)
theorem gx {α : Type} {l : List α} {j : Nat} {x : α} (h : l[j]? = some x) : j < l.length := by
  rcases Nat.lt_or_ge j l.length with w | w
  · exact w
  · rw [List.getElem?_eq_none w] at h
    cases h
section LBQ
variable {d : Nat} {I I' I'' : OId → Nat → Int32} {M R : OId → Nat → AV} {G : SG} {V : Vw} {L : List Nat} {q : Qy}
/-- the queue's entries from h on -/
def QE (I : OId → Nat → Int32) (L : List Nat) (h : Nat) (W : List Vw) : Prop := ∀ j V', W[j]? = some V' → I (32, 0, 0) (h + j) = N (pk V' L)
theorem NS.fq (h : NS I V L) (f : FQ I I') : NS I' V L := by
  unfold NS
  rw [f (6, 0, 0) (by simp) (by simp), f (26, 0, 0) (by simp) (by simp), f (27, 0, 0) (by simp) (by simp), f (29, 0, 0) (by simp) (by simp)]
  exact h
theorem SV.st {V' : Vw} (h : SV I V q L) (s : St q V V') : SV I V' q L := ⟨h.1, h.2.1, fun i k hk => by
  rw [s.2.2.1 k, s.2.2.2.1 k, s.2.2.2.2.1.2]
  exact h.2.2 i k hk⟩
theorem NS.st {V' : Vw} (h : NS I V L) (s : St q V V') : NS I V' L := ⟨h.1, fun i k hi => by
  rw [s.1 k]
  exact ⟨(h.2 i k hi).1, (h.2 i k hi).2.1, fun j m hj hji => by rw [s.2.1]; exact (h.2 i k hi).2.2 j m hj hji⟩⟩
theorem pv {m h e eom : Nat} {v : Vw} (hR : RF R) (hm : m ≤ 2) (hl7 : (Ls V (qs q)).length ≤ 7) (hN : NS I V (Ls V (qs q))) (hS : SV I V q (Ls V (qs q))) (hv : St q V v) (h32 : I (32, 0, 0) h = N (pk v (Ls V (qs q)))) (hh : h < e) (he : e + (if m < 2 then (suc q v).length else 0) ≤ 2451) :
    (opq q v = true → ∃ I', ev (evm (d + 4)) 143 48 [some (aR (8, 0, 0)), some (aI (N e)), some (aI (N m)), some (aI (N eom)), some (aI (N h))] [] [] (I, M, R, G) = some (.inl (some (aI (N m))), (I', M, R, G)) ∧ FS I I') ∧
    (opq q v = false → ∃ I', ev (evm (d + 4)) 143 48 [some (aR (8, 0, 0)), some (aI (N e)), some (aI (N m)), some (aI (N eom)), some (aI (N h))] [] [] (I, M, R, G) = ev (evm (d + 4)) 143 21 [some (aR (8, 0, 0)), some (aI (N (e + (if m < 2 then (suc q v).length else 0)))), some (aI (N m)), some (aI (N eom)), some (aI (N (h + 1)))] [] [] (I', M, R, G) ∧ FQ I I' ∧ (∀ x, x < e → I' (32, 0, 0) x = I (32, 0, 0) x) ∧ (m < 2 → QE I' (Ls V (qs q)) e (suc q v))) := by
  have hLs : Ls v (qs q) = Ls V (qs q) := hv.2.2.2.2.2.1
  have hWv := hv.2.2.2.2.2.2.1
  have hQv := hv.2.2.2.2.2.2.2
  have hCB : CB v (Ls V (qs q)) := hLs ▸ cb_w hWv
  have hSB : SB v q (Ls V (qs q)) := hLs ▸ sb_of hWv hQv
  have h2451 : h < 2451 := by omega
  obtain ⟨I1, e1, a1, a2⟩ := unpack_ok (d := d + 2) (M := M) (G := G) (L := Ls V (qs q)) hR hN.1 (gch_8 hCB) hl7
  have hF1 : FQ I I1 := fun o a _ => a1 o a
  have hN1 : NT I1 v (Ls V (qs q)) := ((hN.fq hF1).st hv).nt (fun i k hi => (a2 i (ls_get hi).1).trans (gch_n hCB hi).symm)
  have hS1 : SV I1 v q (Ls V (qs q)) := (hS.fq hF1).st hv
  have hot := openToServed_ok (d := d + 2) (M := M) (G := G) hR hN1 hS1 hSB hl7 hQv.2.1
  have ho8 := omk_lt (V := v) (q := q) (L := Ls V (qs q))
  have hz : (N (omk v q (Ls V (qs q))) = 0) = (opq q v = false) := by
    rw [← N_0, N_inj (by omega) (by decide)]
    have := omk_0 (V := v) (q := q) (hLs ▸ hSB)
    rw [hLs] at this
    exact this
  have e1' : evm (d + 4) 145 [aR (8, 0, 0), aI (N (pk v (Ls V (qs q))))] (I, M, R, G) = some (.inl none, (I1, M, R, G)) := e1
  have hrun : ev (evm (d + 4)) 143 48 [some (aR (8, 0, 0)), some (aI (N e)), some (aI (N m)), some (aI (N eom)), some (aI (N h))] [] [] (I, M, R, G) = if opq q v = false then ev (evm (d + 4)) 143 70 [some (aR (8, 0, 0)), some (aI (N e)), some (aI (N m)), some (aI (N eom)), some (aI (N h))] [] [] (I1, M, R, G) else some (.inl (some (aI (N m))), (I1, M, R, G)) := by
    rw [s143_48]
    simp only [m143, s143_0, s143_1, s143_4, s143_5, s143_6, s143_9, s143_12, s143_13, s143_14, s143_15, s143_16, s143_17, s143_18, s143_19, s143_23, s143_24, s143_27, s143_28, s143_31, s143_33, s143_34, s143_37, s143_39, s143_40, s143_43, s143_46, s143_47, s143_48, s143_49, s143_50, s143_53, s143_55, s143_58, s143_61, s143_62, s143_65, s143_68, s143_69, s143_71, s143_72, s143_75, s143_76, s143_77, s143_80, s143_81, s143_84, s143_87, s143_88, hR.s.2.2.2.2, get_N (S := (I, M, R, G)) k32 (fun _ => rfl) h2451 (by decide), h32, e1', hot, hz, if_false, if_true, ck_v, ck_x, Option.toList, List.cons_append, List.nil_append, kil_nil, N_1, o10, o00, exN_0, exN_1, exN_2, exN_3, exN_4, exN_5, Ex]
  refine ⟨fun ho => ⟨I1, ?_, hF1.fs⟩, fun ho => ?_⟩
  · rw [hrun, if_neg (by rw [ho]; simp)]
  · rw [hrun, if_pos ho]
    by_cases hm2 : m < 2
    · rw [if_pos hm2] at he ⊢
      have hlt : ((2 : Int32) ≤ N m) = False := N_ge (a := m) (b := 2) hm2 (by decide)
      obtain ⟨I2, e2, b1, b2, b3, b4⟩ := enqueue_ok (d := d) (M := M) (G := G) (V := v) (q := q) (e0 := e) hR hWv hQv (by rw [hLs]; exact hN1) (by rw [hLs]; exact hS1) he
      refine ⟨I2, ?_, hF1.tr b1, fun x hx => (b3 x hx).trans (by rw [a1 _ (by simp)]), fun _ j V' hj => by rw [b4 j V' hj, hLs]⟩
      rw [s143_70]
      simp only [m143, s143_0, s143_1, s143_4, s143_5, s143_6, s143_9, s143_12, s143_13, s143_14, s143_15, s143_16, s143_17, s143_18, s143_19, s143_23, s143_24, s143_27, s143_28, s143_31, s143_33, s143_34, s143_37, s143_39, s143_40, s143_43, s143_46, s143_47, s143_49, s143_50, s143_53, s143_55, s143_58, s143_61, s143_62, s143_65, s143_68, s143_69, s143_70, s143_71, s143_72, s143_75, s143_76, s143_77, s143_80, s143_81, s143_84, s143_87, s143_88, hlt, e2, if_false, if_true, ck_v, ck_x, Option.toList, List.cons_append, List.nil_append, kil_nil, N_1, o10, o00, exN_0, exN_1, exN_2, exN_3, exN_4, exN_5, Ex]
    · rw [if_neg hm2] at he ⊢
      have hlt : ((2 : Int32) ≤ N m) = True := N_ge1 (a := m) (b := 2) (by omega) (by omega)
      refine ⟨I1, ?_, hF1, fun x _ => by rw [a1 _ (by simp)], fun q => absurd q hm2⟩
      rw [s143_70]
      simp only [m143, s143_0, s143_1, s143_4, s143_5, s143_6, s143_9, s143_12, s143_13, s143_14, s143_15, s143_16, s143_17, s143_18, s143_19, s143_23, s143_24, s143_27, s143_28, s143_31, s143_33, s143_34, s143_37, s143_39, s143_40, s143_43, s143_46, s143_47, s143_49, s143_50, s143_53, s143_55, s143_58, s143_61, s143_62, s143_65, s143_68, s143_69, s143_70, s143_71, s143_72, s143_75, s143_76, s143_77, s143_80, s143_81, s143_84, s143_87, s143_88, hlt, if_false, if_true, ck_v, ck_x, Option.toList, List.cons_append, List.nil_append, kil_nil, N_1, o10, o00, exN_0, exN_1, exN_2, exN_3, exN_4, exN_5, Ex]
      rfl
theorem kN32 {f : Int32 → Option Out} : kN (32, 0, 0) f = f (N 2451) := by
  unfold kN
  rw [k32]
end LBQ
