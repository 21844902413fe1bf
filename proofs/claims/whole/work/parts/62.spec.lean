/-! THE METHODS' MEANING: the class's simple modifications -/
/-- the best of the first k that are allowed: of the least cost, the lowest of those -/
def bestf (ok : Nat → Bool) (cost : Nat → Int32) : Nat → Option Nat
  | 0 => none
  | k + 1 => if ok k = true ∧ (∀ b, bestf ok cost k = some b → cost k < cost b) then some k else bestf ok cost k
def och (o : Option Nat) : Int32 := match o with | none => -1 | some b => N b
def oco (cost : Nat → Int32) (o : Option Nat) : Int32 := match o with | none => 0 | some b => cost b
theorem bestf_lt {ok : Nat → Bool} {cost : Nat → Int32} : ∀ {n b : Nat}, bestf ok cost n = some b → b < n ∧ ok b = true
  | 0, b, h => by cases h
  | n + 1, b, h => by
    unfold bestf at h
    split at h
    · cases h
      rename_i q
      exact ⟨Nat.lt_succ_self _, q.1⟩
    · have := bestf_lt h
      exact ⟨by omega, this.2⟩
theorem bestf_some {ok : Nat → Bool} {cost : Nat → Int32} : ∀ {n k : Nat}, k < n → ok k = true → ∃ b, bestf ok cost n = some b
  | 0, k, h, _ => by omega
  | n + 1, k, h, hk => by
    unfold bestf
    by_cases hkn : k < n
    · obtain ⟨b, hb⟩ := bestf_some (cost := cost) hkn hk
      rw [hb]
      split <;> exact ⟨_, rfl⟩
    · have e : k = n := by omega
      subst e
      cases hb : bestf ok cost k with
      | none => exact ⟨k, if_pos ⟨hk, fun b q => by cases q⟩⟩
      | some b => split <;> exact ⟨_, rfl⟩
theorem bestf_congr {ok ok' : Nat → Bool} {cost cost' : Nat → Int32} : ∀ {n : Nat}, (∀ k, k < n → ok k = ok' k ∧ cost k = cost' k) → bestf ok cost n = bestf ok' cost' n
  | 0, _ => rfl
  | n + 1, h => by
    have ih := bestf_congr (n := n) (fun k hk => h k (by omega))
    unfold bestf
    rw [ih, (h n (by omega)).1, (h n (by omega)).2]
    have e : (∀ b, bestf ok' cost' n = some b → cost' n < cost b) = (∀ b, bestf ok' cost' n = some b → cost' n < cost' b) := by
      refine propext ⟨fun q b hb => ?_, fun q b hb => ?_⟩
      · rw [← (h b (by have := (bestf_lt hb).1; omega)).2]; exact q b hb
      · rw [(h b (by have := (bestf_lt hb).1; omega)).2]; exact q b hb
    simp only [e]
theorem fd_add {B : Bk} {x y c e v : Int32} {l : Bool} : fdB (addB B x y c e l) (vn B.1) 3 v = addB B x y v e l := by
  have h : (fun i f => if i = vn B.1 ∧ f = 3 then v else vf (addB B x y c e l).1 i f) = vf (addB B x y v e l).1 := by
    funext i f
    by_cases hi : i = vn B.1
    · match f with
      | 0 => simp [addB, hi, vf]
      | 1 => simp [addB, hi, vf]
      | 2 => simp [addB, hi, vf]
      | 3 => simp [addB, hi, vf]
      | n + 4 => simp [addB, hi, vf]
    · simp [addB, hi, vf]
  unfold fdB
  rw [h]
  rfl
theorem fd_add' {B : Bk} {x y c e v : Int32} {l : Bool} {k : Nat} (hk : k < vn B.1) : fdB (addB B x y c e l) k 3 v = addB (fdB B k 3 v) x y c e l := by
  have h : (fun i f => if i = k ∧ f = 3 then v else vf (addB B x y c e l).1 i f) = vf (addB (fdB B k 3 v) x y c e l).1 := by
    funext i f
    by_cases hi : i = vn B.1
    · have : ¬ i = k := by omega
      simp [addB, fdB, hi, vf]
      omega
    · simp [addB, fdB, hi, vf]
  unfold fdB
  rw [h]
  rfl
def ndN : Nat → Bk → Bk
  | 0, B => B
  | k + 1, B => ndN k (ndB B)
section CMOD
variable {d : Nat} {I I' : OId → Nat → Int32} {M R : OId → Nat → AV} {G : SG} {B B' : Bk} {hs : List Bk} {sn : Option Bk}
theorem rad_ba {n m f : Int32} (h : BA I 0 B) : BA (setI (setI (setI I (4, 0, 0) 0 n) (4, 0, 0) 1 m) (4, 0, 0) 2 f) 0 (radB B n m f) := by
  obtain ⟨⟨⟨r0, r1, r2⟩, hc, h7, hf, hl, hcm⟩, a3, a4, a5, a6, hm, hp, hz⟩ := h
  have eo : ∀ o : OId, o ≠ (4, 0, 0) → setI (setI (setI I (4, 0, 0) 0 n) (4, 0, 0) 1 m) (4, 0, 0) 2 f o = I o := fun o h1 => by
    rw [setI_ne h1, setI_ne h1, setI_ne h1]
  have e4 : ∀ g, setI (setI (setI I (4, 0, 0) 0 n) (4, 0, 0) 1 m) (4, 0, 0) 2 f (4, 0, 0) g = if g = 2 then f else if g = 1 then m else if g = 0 then n else I (4, 0, 0) g := fun g => by
    rw [setI_at, setI_at, setI_at]
  refine ⟨⟨⟨?_, ?_, ?_⟩, ?_, h7, ?_, ?_, ?_⟩, ?_, ?_, ?_, ?_, ?_, ?_, ?_⟩
  · rw [e4]; rfl
  · rw [e4]; rfl
  · rw [e4]; rfl
  · rw [e4]; exact hc
  · intro k hk g hg
    rw [eo (10, 0, k) (by simp)]; exact hf k hk g hg
  · intro k hk
    rw [eo (10, 0, k) (by simp)]; exact hl k hk
  · rw [eo (21, 0, 0) (by simp)]; exact hcm
  · rw [e4]; exact a3
  · rw [e4]; exact a4
  · rw [e4]; exact a5
  · rw [e4]; exact a6
  · rw [eo (7, 0, 0) (by simp)]; exact hm
  · rw [eo (22, 0, 0) (by simp), eo (23, 0, 0) (by simp), eo (24, 0, 0) (by simp)]; exact hp
  · rw [eo (21, 0, 0) (by simp)]; exact hz
theorem CR.setRadii {n m f : Int32} (hR : RF R) (h : CR I B hs sn) (h1 : rg f 0 200) (h2 : rg m 0 f) (h3 : rg n 0 m) (h0 : vn B.1 = 0) : ∃ I', evm (d + 4) 57 [aR (11, 0, 0), aI n, aI m, aI f] (I, M, R, G) = some (.inl (some (aI B.1.1.2.2)), (I', M, R, G)) ∧ CR I' (radB B n m f) (kph B hs) sn ∧ FB I I' := by
  obtain ⟨I1, k1, k2, k3⟩ := h.keep (d := d) (M := M) (G := G) hR
  have e7 : I (4, 0, 0) 7 = 0 := by rw [h.1.1.2.1, h0]; rfl
  have e2 : I1 (4, 0, 0) 2 = B.1.1.2.2 := k2.1.1.1.2.2
  have fr : Fr0 I1 (setI (setI (setI I1 (4, 0, 0) 0 n) (4, 0, 0) 1 m) (4, 0, 0) 2 f) := ((Fr0.rf.st in4).st in4).st in4
  refine ⟨_, ?_, k2.mod fr (rad_ba k2.1), k3.tr fr.fb⟩
  simp only [m57, s57_0, s57_1, s57_2, s57_5, s57_8, s57_9, s57_10, s57_11, s57_14, s57_15, s57_16, s57_17, s57_20, s57_21, s57_24, s57_27, s57_30, s57_33, s57_40, s57_41, s57_44, s57_45, s57_48, s57_51, s57_52, s57_55, s57_58, s57_60, s57_61, s57_64, s57_65, s57_68, s57_69, s57_72, s57_73, s57_76, s57_77, s57_80, s57_81, s57_84, s57_86, checkRange_ok, if_pos h1, if_pos h2, if_pos h3, hR.o.1, hR.o.2.1, e7, show ((0 : Int32) ≤ 0) = True from by simp, k1, e2, if_false, if_true, ck_v, ck_x, Option.toList, List.cons_append, List.nil_append, kil_nil, N_1, o10, o00, exN_0, exN_1, exN_2, exN_3, exN_4, exN_5, Ex]
theorem setRadii_no0 {n m f : Int32} (h : ¬ (rg f 0 200 ∧ rg m 0 f ∧ rg n 0 m)) : evm (d + 4) 57 [aR (11, 0, 0), aI n, aI m, aI f] (I, M, R, G) = Ex 0 (I, M, R, G) := by
  by_cases h1 : rg f 0 200
  · by_cases h2 : rg m 0 f
    · have h3 : ¬ rg n 0 m := fun q => h ⟨h1, h2, q⟩
      simp only [m57, s57_0, s57_1, s57_2, s57_5, s57_8, s57_9, s57_10, s57_11, s57_14, s57_15, s57_16, s57_17, s57_20, s57_21, s57_24, s57_27, s57_30, s57_33, s57_40, s57_41, s57_44, s57_45, s57_48, s57_51, s57_52, s57_55, s57_58, s57_60, s57_61, s57_64, s57_65, s57_68, s57_69, s57_72, s57_73, s57_76, s57_77, s57_80, s57_81, s57_84, s57_86, checkRange_ok, if_pos h1, if_pos h2, if_neg h3, if_false, if_true, ck_v, ck_x, Option.toList, List.cons_append, List.nil_append, kil_nil, N_1, o10, o00, exN_0, exN_1, exN_2, exN_3, exN_4, exN_5, Ex]
    · simp only [m57, s57_0, s57_1, s57_2, s57_5, s57_8, s57_9, s57_10, s57_11, s57_14, s57_15, s57_16, s57_17, s57_20, s57_21, s57_24, s57_27, s57_30, s57_33, s57_40, s57_41, s57_44, s57_45, s57_48, s57_51, s57_52, s57_55, s57_58, s57_60, s57_61, s57_64, s57_65, s57_68, s57_69, s57_72, s57_73, s57_76, s57_77, s57_80, s57_81, s57_84, s57_86, checkRange_ok, if_pos h1, if_neg h2, if_false, if_true, ck_v, ck_x, Option.toList, List.cons_append, List.nil_append, kil_nil, N_1, o10, o00, exN_0, exN_1, exN_2, exN_3, exN_4, exN_5, Ex]
  · simp only [m57, s57_0, s57_1, s57_2, s57_5, s57_8, s57_9, s57_10, s57_11, s57_14, s57_15, s57_16, s57_17, s57_20, s57_21, s57_24, s57_27, s57_30, s57_33, s57_40, s57_41, s57_44, s57_45, s57_48, s57_51, s57_52, s57_55, s57_58, s57_60, s57_61, s57_64, s57_65, s57_68, s57_69, s57_72, s57_73, s57_76, s57_77, s57_80, s57_81, s57_84, s57_86, checkRange_ok, if_neg h1, if_false, if_true, ck_v, ck_x, Option.toList, List.cons_append, List.nil_append, kil_nil, N_1, o10, o00, exN_0, exN_1, exN_2, exN_3, exN_4, exN_5, Ex]
theorem CR.setRadii_no1 {n m f : Int32} (hR : RF R) (h : CR I B hs sn) (h1 : rg f 0 200) (h2 : rg m 0 f) (h3 : rg n 0 m) (h0 : 0 < vn B.1) : evm (d + 4) 57 [aR (11, 0, 0), aI n, aI m, aI f] (I, M, R, G) = Ex 1 (I, M, R, G) := by
  have h7 := h.1.1.2.2.1
  have e : (N (vn B.1) ≤ 0) = False := by
    show (N (vn B.1) ≤ N 0) = False
    exact N_ge h0 (by omega)
  simp only [m57, s57_0, s57_1, s57_2, s57_5, s57_8, s57_9, s57_10, s57_11, s57_14, s57_15, s57_16, s57_17, s57_20, s57_21, s57_24, s57_27, s57_30, s57_33, s57_40, s57_41, s57_44, s57_45, s57_48, s57_51, s57_52, s57_55, s57_58, s57_60, s57_61, s57_64, s57_65, s57_68, s57_69, s57_72, s57_73, s57_76, s57_77, s57_80, s57_81, s57_84, s57_86, checkRange_ok, if_pos h1, if_pos h2, if_pos h3, hR.o.1, h.1.1.2.1, e, if_false, if_true, ck_v, ck_x, Option.toList, List.cons_append, List.nil_append, kil_nil, N_1, o10, o00, exN_0, exN_1, exN_2, exN_3, exN_4, exN_5, Ex]
theorem fr0_fd {k g : Nat} {v : Int32} : Fr0 I (setI I (10, 0, k) g v) := Fr0.rf.st ⟨rfl, by simp⟩
theorem CR.confirm {id days : Int32} (hR : RF R) (h : CR I B hs sn) (h1 : fid B.1 id < vn B.1) (h2 : rg days 1 365) (h3 : vl B.1 (fid B.1 id) = false) : ∃ I', evm (d + 4) 89 [aR (11, 0, 0), aI id, aI days] (I, M, R, G) = some (.inl (some (aI (bday B + days))), (I', M, R, G)) ∧ CR I' (fdB (liB B (fid B.1 id)) (fid B.1 id) 4 (bday B + days)) (kph B hs) sn ∧ FB I I' := by
  obtain ⟨I1, k1, k2, k3⟩ := h.keep (d := d) (M := M) (G := G) hR
  have h7 := h.1.1.2.2.1
  have e5 : bb (I (10, 0, fid B.1 id) 5) = 1 := by rw [h.1.1.2.2.2.2.1 _ h1, h3]; rfl
  have fr : Fr0 I1 (setI (setI I1 (10, 0, fid B.1 id) 5 0) (10, 0, fid B.1 id) 4 (bday B + days)) := (Fr0.rf.st ⟨rfl, by simp⟩).st ⟨rfl, by simp⟩
  refine ⟨_, ?_, k2.mod fr (fd_ba (li_ba k2.1) (by decide)), k3.tr fr.fb⟩
  have e3 : setI I1 (10, 0, fid B.1 id) 5 0 (4, 0, 0) 3 = bday B := by rw [setI_ne (by simp)]; exact k2.1.2.1
  have e4 : ∀ v, setI (setI I1 (10, 0, fid B.1 id) 5 0) (10, 0, fid B.1 id) 4 v (10, 0, fid B.1 id) 4 = v := fun v => by rw [setI_at, if_pos rfl]
  simp only [m89, s89_0, s89_1, s89_2, s89_5, s89_6, s89_7, s89_8, s89_11, s89_14, s89_15, s89_18, s89_19, s89_22, s89_25, s89_28, s89_31, s89_38, s89_39, s89_42, s89_43, s89_46, s89_49, s89_50, s89_53, s89_54, s89_57, s89_59, s89_61, s89_62, s89_65, s89_67, s89_68, s89_71, s89_74, s89_75, s89_76, s89_79, s89_81, s89_84, placeOf_ok hR h.1.1, checkRange_ok, if_pos h1, if_pos h2, hR.o.1, hR.o.2.1, at_N hR (show 0 < 8 by decide) (show fid B.1 id < 7 by omega), e5, k1, true_or, e3, e4, if_false, if_true, ck_v, ck_x, Option.toList, List.cons_append, List.nil_append, kil_nil, N_1, o10, o00, exN_0, exN_1, exN_2, exN_3, exN_4, exN_5, Ex]
theorem CR.confirm_no3 {id days : Int32} (hR : RF R) (h : CR I B hs sn) (h1 : ¬ fid B.1 id < vn B.1) : evm (d + 4) 89 [aR (11, 0, 0), aI id, aI days] (I, M, R, G) = Ex 3 (I, M, R, G) := by
  simp only [m89, s89_0, s89_1, s89_2, s89_5, s89_6, s89_7, s89_8, s89_11, s89_14, s89_15, s89_18, s89_19, s89_22, s89_25, s89_28, s89_31, s89_38, s89_39, s89_42, s89_43, s89_46, s89_49, s89_50, s89_53, s89_54, s89_57, s89_59, s89_61, s89_62, s89_65, s89_67, s89_68, s89_71, s89_74, s89_75, s89_76, s89_79, s89_81, s89_84, placeOf_ok hR h.1.1, if_neg h1, if_false, if_true, ck_v, ck_x, Option.toList, List.cons_append, List.nil_append, kil_nil, N_1, o10, o00, exN_0, exN_1, exN_2, exN_3, exN_4, exN_5, Ex]
theorem CR.confirm_no0 {id days : Int32} (hR : RF R) (h : CR I B hs sn) (h1 : fid B.1 id < vn B.1) (h2 : ¬ rg days 1 365) : evm (d + 4) 89 [aR (11, 0, 0), aI id, aI days] (I, M, R, G) = Ex 0 (I, M, R, G) := by
  simp only [m89, s89_0, s89_1, s89_2, s89_5, s89_6, s89_7, s89_8, s89_11, s89_14, s89_15, s89_18, s89_19, s89_22, s89_25, s89_28, s89_31, s89_38, s89_39, s89_42, s89_43, s89_46, s89_49, s89_50, s89_53, s89_54, s89_57, s89_59, s89_61, s89_62, s89_65, s89_67, s89_68, s89_71, s89_74, s89_75, s89_76, s89_79, s89_81, s89_84, placeOf_ok hR h.1.1, checkRange_ok, if_pos h1, if_neg h2, if_false, if_true, ck_v, ck_x, Option.toList, List.cons_append, List.nil_append, kil_nil, N_1, o10, o00, exN_0, exN_1, exN_2, exN_3, exN_4, exN_5, Ex]
theorem CR.confirm_no1 {id days : Int32} (hR : RF R) (h : CR I B hs sn) (h1 : fid B.1 id < vn B.1) (h2 : rg days 1 365) (h3 : vl B.1 (fid B.1 id) = true) : evm (d + 4) 89 [aR (11, 0, 0), aI id, aI days] (I, M, R, G) = Ex 1 (I, M, R, G) := by
  have h7 := h.1.1.2.2.1
  have e5 : bb (I (10, 0, fid B.1 id) 5) = 0 := by rw [h.1.1.2.2.2.2.1 _ h1, h3]; rfl
  simp only [m89, s89_0, s89_1, s89_2, s89_5, s89_6, s89_7, s89_8, s89_11, s89_14, s89_15, s89_18, s89_19, s89_22, s89_25, s89_28, s89_31, s89_38, s89_39, s89_42, s89_43, s89_46, s89_49, s89_50, s89_53, s89_54, s89_57, s89_59, s89_61, s89_62, s89_65, s89_67, s89_68, s89_71, s89_74, s89_75, s89_76, s89_79, s89_81, s89_84, placeOf_ok hR h.1.1, checkRange_ok, if_pos h1, if_pos h2, hR.o.1, at_N hR (show 0 < 8 by decide) (show fid B.1 id < 7 by omega), e5, if_false, if_true, ck_v, ck_x, Option.toList, List.cons_append, List.nil_append, kil_nil, N_1, o10, o00, exN_0, exN_1, exN_2, exN_3, exN_4, exN_5, Ex]
theorem CR.renew {id days : Int32} (hR : RF R) (h : CR I B hs sn) (h1 : fid B.1 id < vn B.1) (h2 : rg days 1 365) (h3 : vl B.1 (fid B.1 id) = true) (h4 : vf B.1 (fid B.1 id) 4 + days ≤ bday B + 365) : ∃ I', evm (d + 4) 92 [aR (11, 0, 0), aI id, aI days] (I, M, R, G) = some (.inl (some (aI (vf B.1 (fid B.1 id) 4 + days))), (I', M, R, G)) ∧ CR I' (fdB B (fid B.1 id) 4 (vf B.1 (fid B.1 id) 4 + days)) (kph B hs) sn ∧ FB I I' := by
  obtain ⟨I1, k1, k2, k3⟩ := h.keep (d := d) (M := M) (G := G) hR
  have h7 := h.1.1.2.2.1
  have e5 : bb (I (10, 0, fid B.1 id) 5) = 0 := by rw [h.1.1.2.2.2.2.1 _ h1, h3]; rfl
  refine ⟨_, ?_, k2.mod fr0_fd (fd_ba k2.1 (by decide)), k3.tr fr0_fd.fb⟩
  have e4 : ∀ v, setI I1 (10, 0, fid B.1 id) 4 v (10, 0, fid B.1 id) 4 = v := fun v => by rw [setI_at, if_pos rfl]
  simp only [m92, s92_0, s92_1, s92_4, s92_5, s92_6, s92_9, s92_12, s92_13, s92_14, s92_15, s92_18, s92_21, s92_22, s92_25, s92_26, s92_29, s92_30, s92_31, s92_32, s92_35, s92_38, s92_41, s92_42, s92_45, s92_48, s92_55, s92_56, s92_59, s92_60, s92_63, s92_66, s92_67, s92_68, s92_71, s92_72, s92_73, s92_76, s92_77, s92_80, placeOf_ok hR h.1.1, checkRange_ok, checkLicensed_ok, if_pos h1, if_pos h2, hR.o.1, hR.o.2.1, at_N hR (show 0 < 8 by decide) (show fid B.1 id < 7 by omega), e5, h.1.1.fl h1 (show 4 < 5 by decide), k2.1.1.fl h1 (show 4 < 5 by decide), h.1.2.1, if_pos h4, k1, e4, if_false, if_true, ck_v, ck_x, Option.toList, List.cons_append, List.nil_append, kil_nil, N_1, o10, o00, exN_0, exN_1, exN_2, exN_3, exN_4, exN_5, Ex]
theorem CR.renew_no3 {id days : Int32} (hR : RF R) (h : CR I B hs sn) (h1 : ¬ fid B.1 id < vn B.1) : evm (d + 4) 92 [aR (11, 0, 0), aI id, aI days] (I, M, R, G) = Ex 3 (I, M, R, G) := by
  simp only [m92, s92_0, s92_1, s92_4, s92_5, s92_6, s92_9, s92_12, s92_13, s92_14, s92_15, s92_18, s92_21, s92_22, s92_25, s92_26, s92_29, s92_30, s92_31, s92_32, s92_35, s92_38, s92_41, s92_42, s92_45, s92_48, s92_55, s92_56, s92_59, s92_60, s92_63, s92_66, s92_67, s92_68, s92_71, s92_72, s92_73, s92_76, s92_77, s92_80, hR.o.1, placeOf_ok hR h.1.1, if_neg h1, if_false, if_true, ck_v, ck_x, Option.toList, List.cons_append, List.nil_append, kil_nil, N_1, o10, o00, exN_0, exN_1, exN_2, exN_3, exN_4, exN_5, Ex]
theorem CR.renew_no0 {id days : Int32} (hR : RF R) (h : CR I B hs sn) (h1 : fid B.1 id < vn B.1) (h2 : ¬ rg days 1 365) : evm (d + 4) 92 [aR (11, 0, 0), aI id, aI days] (I, M, R, G) = Ex 0 (I, M, R, G) := by
  have h7 := h.1.1.2.2.1
  simp only [m92, s92_0, s92_1, s92_4, s92_5, s92_6, s92_9, s92_12, s92_13, s92_14, s92_15, s92_18, s92_21, s92_22, s92_25, s92_26, s92_29, s92_30, s92_31, s92_32, s92_35, s92_38, s92_41, s92_42, s92_45, s92_48, s92_55, s92_56, s92_59, s92_60, s92_63, s92_66, s92_67, s92_68, s92_71, s92_72, s92_73, s92_76, s92_77, s92_80, hR.o.1, placeOf_ok hR h.1.1, checkRange_ok, at_N hR (show 0 < 8 by decide) (show fid B.1 id < 7 by omega), if_pos h1, if_neg h2, if_false, if_true, ck_v, ck_x, Option.toList, List.cons_append, List.nil_append, kil_nil, N_1, o10, o00, exN_0, exN_1, exN_2, exN_3, exN_4, exN_5, Ex]
theorem CR.renew_no1 {id days : Int32} (hR : RF R) (h : CR I B hs sn) (h1 : fid B.1 id < vn B.1) (h2 : rg days 1 365) (h3 : ¬ (vl B.1 (fid B.1 id) = true ∧ vf B.1 (fid B.1 id) 4 + days ≤ bday B + 365)) : evm (d + 4) 92 [aR (11, 0, 0), aI id, aI days] (I, M, R, G) = Ex 1 (I, M, R, G) := by
  have h7 := h.1.1.2.2.1
  by_cases hl : vl B.1 (fid B.1 id) = true
  · have e5 : bb (I (10, 0, fid B.1 id) 5) = 0 := by rw [h.1.1.2.2.2.2.1 _ h1, hl]; rfl
    have h4 : ¬ vf B.1 (fid B.1 id) 4 + days ≤ bday B + 365 := fun q => h3 ⟨hl, q⟩
    simp only [m92, s92_0, s92_1, s92_4, s92_5, s92_6, s92_9, s92_12, s92_13, s92_14, s92_15, s92_18, s92_21, s92_22, s92_25, s92_26, s92_29, s92_30, s92_31, s92_32, s92_35, s92_38, s92_41, s92_42, s92_45, s92_48, s92_55, s92_56, s92_59, s92_60, s92_63, s92_66, s92_67, s92_68, s92_71, s92_72, s92_73, s92_76, s92_77, s92_80, placeOf_ok hR h.1.1, checkRange_ok, checkLicensed_ok, if_pos h1, if_pos h2, hR.o.1, hR.o.2.1, at_N hR (show 0 < 8 by decide) (show fid B.1 id < 7 by omega), e5, h.1.1.fl h1 (show 4 < 5 by decide), h.1.2.1, if_neg h4, if_false, if_true, ck_v, ck_x, Option.toList, List.cons_append, List.nil_append, kil_nil, N_1, o10, o00, exN_0, exN_1, exN_2, exN_3, exN_4, exN_5, Ex]
  · have e5 : bb (I (10, 0, fid B.1 id) 5) = 1 := by rw [h.1.1.2.2.2.2.1 _ h1, if_neg hl]
    simp only [m92, s92_0, s92_1, s92_4, s92_5, s92_6, s92_9, s92_12, s92_13, s92_14, s92_15, s92_18, s92_21, s92_22, s92_25, s92_26, s92_29, s92_30, s92_31, s92_32, s92_35, s92_38, s92_41, s92_42, s92_45, s92_48, s92_55, s92_56, s92_59, s92_60, s92_63, s92_66, s92_67, s92_68, s92_71, s92_72, s92_73, s92_76, s92_77, s92_80, placeOf_ok hR h.1.1, checkRange_ok, checkLicensed_ok, if_pos h1, if_pos h2, hR.o.1, at_N hR (show 0 < 8 by decide) (show fid B.1 id < 7 by omega), e5, if_false, if_true, ck_v, ck_x, Option.toList, List.cons_append, List.nil_append, kil_nil, N_1, o10, o00, exN_0, exN_1, exN_2, exN_3, exN_4, exN_5, Ex]
theorem CR.close {id : Int32} (hR : RF R) (h : CR I B hs sn) (h1 : fid B.1 id < vn B.1) : ∃ I', evm (d + 5) 95 [aR (11, 0, 0), aI id] (I, M, R, G) = some (.inl (some (aI (N (vn B.1 - 1)))), (I', M, R, G)) ∧ CR I' (remB B (fid B.1 id)) (kph B hs) sn ∧ FB I I' := by
  obtain ⟨I1, k1, k2, k3⟩ := h.keep (d := d + 1) (M := M) (G := G) hR
  have hb := remove_ba k2.1 h1
  refine ⟨_, ?_, k2.mod Fr0.rv hb, k3.tr Fr0.rv.fb⟩
  have e7 : rvI I1 (fid B.1 id) (vn B.1) (4, 0, 0) 7 = N (vn B.1 - 1) := hb.1.2.1
  simp only [m95, s95_0, s95_1, s95_2, s95_5, s95_6, s95_7, s95_10, s95_11, s95_14, s95_17, s95_18, s95_21, s95_22, s95_25, s95_26, s95_29, s95_32, placeOf_ok hR h.1.1, if_pos h1, hR.o.1, hR.o.2.1, k1, remove_ok hR k2.1 h1, e7, if_false, if_true, ck_v, ck_x, Option.toList, List.cons_append, List.nil_append, kil_nil, N_1, o10, o00, exN_0, exN_1, exN_2, exN_3, exN_4, exN_5, Ex]
theorem CR.close_no {id : Int32} (hR : RF R) (h : CR I B hs sn) (h1 : ¬ fid B.1 id < vn B.1) : evm (d + 5) 95 [aR (11, 0, 0), aI id] (I, M, R, G) = Ex 3 (I, M, R, G) := by
  simp only [m95, s95_0, s95_1, s95_2, s95_5, s95_6, s95_7, s95_10, s95_11, s95_14, s95_17, s95_18, s95_21, s95_22, s95_25, s95_26, s95_29, s95_32, placeOf_ok hR h.1.1, if_neg h1, if_false, if_true, ck_v, ck_x, Option.toList, List.cons_append, List.nil_append, kil_nil, N_1, o10, o00, exN_0, exN_1, exN_2, exN_3, exN_4, exN_5, Ex]
theorem passLoop {n : Nat} {b : Int32} (hn : n < 100) (hR : RF R) : ∀ (r k : Nat) (I : OId → Nat → Int32) (B : Bk), k + r = n → BA I 0 B → ∃ I', ev (evm (d + 5)) 97 53 [some (aR (11, 0, 0)), some (aI (N n)), some (aI b), some (aI (N k))] [] [] (I, M, R, G) = some (.inl (some (aI (bexp (ndN r B) - b))), (I', M, R, G)) ∧ BA I' 0 (ndN r B) ∧ Fr0 I I'
  | 0, k, I, B, hk, h => by
    refine ⟨I, ?_, h, Fr0.rf⟩
    rw [s97_53]
    simp only [m97, s97_0, s97_1, s97_2, s97_4, s97_7, s97_8, s97_11, s97_14, s97_15, s97_16, s97_19, s97_22, s97_25, s97_32, s97_33, s97_36, s97_37, s97_40, s97_43, s97_44, s97_47, s97_50, s97_51, s97_52, s97_54, s97_55, s97_58, s97_59, s97_62, s97_65, s97_68, s97_71, s97_72, s97_75, s97_78, s97_79, s97_80, N_ge1 (show n ≤ k by omega) (show k < 2147483648 by omega), hR.o.1, h.2.2.2.1, if_false, if_true, ck_v, ck_x, Option.toList, List.cons_append, List.nil_append, kil_nil, N_1, o10, o00, exN_0, exN_1, exN_2, exN_3, exN_4, exN_5, Ex]
    rfl
  | r + 1, k, I, B, hk, h => by
    obtain ⟨I1, e1, h1, f1⟩ := nextDay_ok (d := d) (M := M) (G := G) hR h
    obtain ⟨I2, e2, h2, f2⟩ := passLoop hn hR r (k + 1) I1 (ndB B) (by omega) h1
    refine ⟨I2, ?_, h2, f1.tr f2⟩
    rw [s97_53]
    simp only [m97, s97_0, s97_1, s97_2, s97_4, s97_7, s97_8, s97_11, s97_14, s97_15, s97_16, s97_19, s97_22, s97_25, s97_32, s97_33, s97_36, s97_37, s97_40, s97_43, s97_44, s97_47, s97_50, s97_51, s97_52, s97_54, s97_55, s97_58, s97_59, s97_62, s97_65, s97_68, s97_71, s97_72, s97_75, s97_78, s97_79, s97_80, N_ge (show k < n by omega) (show n < 2147483648 by omega), hR.o.1, e1, if_false, if_true, ck_v, ck_x, Option.toList, List.cons_append, List.nil_append, kil_nil, N_1, o10, o00, exN_0, exN_1, exN_2, exN_3, exN_4, exN_5, Ex]
    exact e2
theorem CR.pass {n : Nat} (hR : RF R) (h : CR I B hs sn) (h1 : 1 ≤ n ∧ n ≤ 99) (h2 : bday B + N n ≤ 999) : ∃ I', evm (d + 6) 97 [aR (11, 0, 0), aI (N n)] (I, M, R, G) = some (.inl (some (aI (bexp (ndN n B) - bexp B))), (I', M, R, G)) ∧ CR I' (ndN n B) (kph B hs) sn ∧ FB I I' := by
  obtain ⟨I1, k1, k2, k3⟩ := h.keep (d := d + 2) (M := M) (G := G) hR
  obtain ⟨I2, e2, h2', f2⟩ := passLoop (d := d) (M := M) (G := G) (n := n) (b := bexp B) (by omega) hR n 0 I1 B (by omega) k2.1
  have hg : rg (N n) 1 99 := ⟨by
    show ¬ N n < N 1
    rw [N_lt (by omega) (by omega)]; omega, by
    show ¬ N 99 < N n
    rw [N_lt (by omega) (by omega)]; omega⟩
  refine ⟨I2, ?_, k2.mod f2 h2', k3.tr f2.fb⟩
  rw [m97]
  simp only [s97_0, s97_1, s97_2, s97_4, s97_7, s97_8, s97_11, s97_14, s97_15, s97_16, s97_19, s97_22, s97_25, s97_32, s97_33, s97_36, s97_37, s97_40, s97_43, s97_44, s97_47, s97_50, s97_51, s97_52, checkRange_ok, if_pos hg, hR.o.1, hR.o.2.1, h.1.2.1, if_pos h2, k1, k2.1.2.2.2.1, if_false, if_true, ck_v, ck_x, Option.toList, List.cons_append, List.nil_append, kil_nil, N_1, o10, o00, exN_0, exN_1, exN_2, exN_3, exN_4, exN_5, Ex]
  exact e2
theorem pass_no0 {days : Int32} (h : ¬ rg days 1 99) : evm (d + 6) 97 [aR (11, 0, 0), aI days] (I, M, R, G) = Ex 0 (I, M, R, G) := by
  rw [m97]
  simp only [s97_0, s97_1, s97_2, s97_4, s97_7, s97_8, s97_11, s97_14, s97_15, s97_16, s97_19, s97_22, s97_25, s97_32, s97_33, s97_36, s97_37, s97_40, s97_43, s97_44, s97_47, s97_50, s97_51, s97_52, checkRange_ok, if_neg h, if_false, if_true, ck_v, ck_x, Option.toList, List.cons_append, List.nil_append, kil_nil, N_1, o10, o00, exN_0, exN_1, exN_2, exN_3, exN_4, exN_5, Ex]
theorem CR.pass_no1 {days : Int32} (hR : RF R) (h : CR I B hs sn) (h1 : rg days 1 99) (h2 : ¬ bday B + days ≤ 999) : evm (d + 6) 97 [aR (11, 0, 0), aI days] (I, M, R, G) = Ex 1 (I, M, R, G) := by
  rw [m97]
  simp only [s97_0, s97_1, s97_2, s97_4, s97_7, s97_8, s97_11, s97_14, s97_15, s97_16, s97_19, s97_22, s97_25, s97_32, s97_33, s97_36, s97_37, s97_40, s97_43, s97_44, s97_47, s97_50, s97_51, s97_52, checkRange_ok, if_pos h1, hR.o.1, h.1.2.1, if_neg h2, if_false, if_true, ck_v, ck_x, Option.toList, List.cons_append, List.nil_append, kil_nil, N_1, o10, o00, exN_0, exN_1, exN_2, exN_3, exN_4, exN_5, Ex]
/-- the quietest channel that conflicts with nobody -/
def qfv (V : Vw) (x y : Int32) : Nat → Option Nat := bestf (fun c => decide (cnf V x y (N c) = 0)) (fun c => dst V x y (N c) (-1))
theorem quietestFree_ok {V : Vw} {x y : Int32} (hR : RF R) (h : BV I 0 V) (hW : WV V) : evm (d + 3) 85 [aR (4, 0, 0), aI x, aI y] (I, M, R, G) = some (.inl (some (aI (och (qfv V x y 8)))), (I, M, R, G)) := by
  rw [m85]
  simp only [s85_0, s85_1, s85_2, s85_3, s85_5, s85_6, kil_nil]
  refine loopJ (n := 8) (f := fun k (b : Option AV × Option AV) => ev (evm (d + 2)) 85 8 [some (aR (4, 0, 0)), some (aI x), some (aI y), some (aI (och (qfv V x y k))), some (aI (oco (fun c => dst V x y (N c) (-1)) (qfv V x y k))), some (aI (N k)), b.1, b.2] [] [] (I, M, R, G)) ?_ ?_ (none, none)
  · rintro k ⟨b1, b2⟩ hk
    have e8 : ((8 : Int32) ≤ N k) = False := N_ge (a := k) (b := 8) hk (by decide)
    obtain ⟨s, hs, es⟩ := dst_N (w := -1) hW (x := x) (y := y) hk
    cases hq : qfv V x y k with
    | none =>
      have e : qfv V x y (k + 1) = if cnf V x y (N k) = 0 then some k else none := by
        unfold qfv at hq ⊢
        unfold bestf
        rw [hq]
        by_cases h1 : cnf V x y (N k) = 0 <;> simp [h1]
      rw [e]
      by_cases h1 : cnf V x y (N k) = 0
      · rw [if_pos h1]
        refine ⟨(some (aI (dst V x y (N k) (-1))), some (aI 1)), ?_⟩
        show ev (evm (d + 2)) 85 8 [_, _, _, some (aI (-1)), some (aI 0), _, b1, b2] [] [] (I, M, R, G) = _
        rw [s85_8]
        simp only [m85, s85_0, s85_1, s85_2, s85_3, s85_5, s85_6, s85_10, s85_12, s85_15, s85_16, s85_17, s85_18, s85_20, s85_21, s85_24, s85_26, s85_27, s85_28, s85_31, s85_33, s85_35, s85_38, s85_39, s85_42, s85_43, s85_45, s85_47, s85_50, s85_51, s85_52, s85_53, s85_55, s85_58, s85_61, s85_63, s85_64, s85_66, s85_68, s85_71, s85_74, s85_75, e8, disturbanceV hR (show 0 < 8 by decide) h, countConflicts_ok hR (show 0 < 8 by decide) h, h1, if_false, if_true, ck_v, ck_x, Option.toList, List.cons_append, List.nil_append, kil_nil, N_1, o10, o00, exN_0, exN_1, exN_2, exN_3, exN_4, exN_5, Ex, or_true, true_or]
        rfl
      · rw [if_neg h1]
        refine ⟨(some (aI (dst V x y (N k) (-1))), some (aI 1)), ?_⟩
        show ev (evm (d + 2)) 85 8 [_, _, _, some (aI (-1)), some (aI 0), _, b1, b2] [] [] (I, M, R, G) = _
        rw [s85_8]
        simp only [m85, s85_0, s85_1, s85_2, s85_3, s85_5, s85_6, s85_10, s85_12, s85_15, s85_16, s85_17, s85_18, s85_20, s85_21, s85_24, s85_26, s85_27, s85_28, s85_31, s85_33, s85_35, s85_38, s85_39, s85_42, s85_43, s85_45, s85_47, s85_50, s85_51, s85_52, s85_53, s85_55, s85_58, s85_61, s85_63, s85_64, s85_66, s85_68, s85_71, s85_74, s85_75, e8, disturbanceV hR (show 0 < 8 by decide) h, countConflicts_ok hR (show 0 < 8 by decide) h, h1, if_false, if_true, ck_v, ck_x, Option.toList, List.cons_append, List.nil_append, kil_nil, N_1, o10, o00, exN_0, exN_1, exN_2, exN_3, exN_4, exN_5, Ex, or_true, true_or]
        rfl
    | some b =>
      have hb8 : b < k := (bestf_lt (show bestf _ _ k = some b from hq)).1
      have em : (N b = -1) = False := by
        refine eq_false (fun q => ?_)
        have := N_neg (a := b) (by omega)
        rw [q] at this
        exact absurd this (by decide)
      have e : qfv V x y (k + 1) = if cnf V x y (N k) = 0 ∧ dst V x y (N k) (-1) < dst V x y (N b) (-1) then some k else some b := by
        unfold qfv at hq ⊢
        unfold bestf
        rw [hq]
        by_cases h1 : cnf V x y (N k) = 0 <;> by_cases h2 : dst V x y (N k) (-1) < dst V x y (N b) (-1) <;> simp [h1, h2]
      rw [e]
      by_cases h2 : dst V x y (N k) (-1) < dst V x y (N b) (-1)
      · by_cases h1 : cnf V x y (N k) = 0
        · rw [if_pos ⟨h1, h2⟩]
          refine ⟨(some (aI (dst V x y (N k) (-1))), some (aI 1)), ?_⟩
          show ev (evm (d + 2)) 85 8 [_, _, _, some (aI (N b)), some (aI (dst V x y (N b) (-1))), _, b1, b2] [] [] (I, M, R, G) = _
          rw [s85_8]
          simp only [m85, s85_0, s85_1, s85_2, s85_3, s85_5, s85_6, s85_10, s85_12, s85_15, s85_16, s85_17, s85_18, s85_20, s85_21, s85_24, s85_26, s85_27, s85_28, s85_31, s85_33, s85_35, s85_38, s85_39, s85_42, s85_43, s85_45, s85_47, s85_50, s85_51, s85_52, s85_53, s85_55, s85_58, s85_61, s85_63, s85_64, s85_66, s85_68, s85_71, s85_74, s85_75, e8, em, disturbanceV hR (show 0 < 8 by decide) h, countConflicts_ok hR (show 0 < 8 by decide) h, h1, ite_le, if_pos h2, if_false, if_true, ck_v, ck_x, Option.toList, List.cons_append, List.nil_append, kil_nil, N_1, o10, o00, exN_0, exN_1, exN_2, exN_3, exN_4, exN_5, Ex, or_true, true_or]
          rfl
        · rw [if_neg (fun q => h1 q.1)]
          refine ⟨(some (aI (dst V x y (N k) (-1))), some (aI 1)), ?_⟩
          show ev (evm (d + 2)) 85 8 [_, _, _, some (aI (N b)), some (aI (dst V x y (N b) (-1))), _, b1, b2] [] [] (I, M, R, G) = _
          rw [s85_8]
          simp only [m85, s85_0, s85_1, s85_2, s85_3, s85_5, s85_6, s85_10, s85_12, s85_15, s85_16, s85_17, s85_18, s85_20, s85_21, s85_24, s85_26, s85_27, s85_28, s85_31, s85_33, s85_35, s85_38, s85_39, s85_42, s85_43, s85_45, s85_47, s85_50, s85_51, s85_52, s85_53, s85_55, s85_58, s85_61, s85_63, s85_64, s85_66, s85_68, s85_71, s85_74, s85_75, e8, em, disturbanceV hR (show 0 < 8 by decide) h, countConflicts_ok hR (show 0 < 8 by decide) h, h1, ite_le, if_pos h2, if_false, if_true, ck_v, ck_x, Option.toList, List.cons_append, List.nil_append, kil_nil, N_1, o10, o00, exN_0, exN_1, exN_2, exN_3, exN_4, exN_5, Ex, or_true, true_or]
          rfl
      · rw [if_neg (fun q => h2 q.2)]
        refine ⟨(some (aI (dst V x y (N k) (-1))), some (aI 0)), ?_⟩
        show ev (evm (d + 2)) 85 8 [_, _, _, some (aI (N b)), some (aI (dst V x y (N b) (-1))), _, b1, b2] [] [] (I, M, R, G) = _
        rw [s85_8]
        simp only [m85, s85_0, s85_1, s85_2, s85_3, s85_5, s85_6, s85_10, s85_12, s85_15, s85_16, s85_17, s85_18, s85_20, s85_21, s85_24, s85_26, s85_27, s85_28, s85_31, s85_33, s85_35, s85_38, s85_39, s85_42, s85_43, s85_45, s85_47, s85_50, s85_51, s85_52, s85_53, s85_55, s85_58, s85_61, s85_63, s85_64, s85_66, s85_68, s85_71, s85_74, s85_75, e8, em, disturbanceV hR (show 0 < 8 by decide) h, countConflicts_ok hR (show 0 < 8 by decide) h, ite_le, if_neg h2, if_false, if_true, ck_v, ck_x, Option.toList, List.cons_append, List.nil_append, kil_nil, N_1, o10, o00, exN_0, exN_1, exN_2, exN_3, exN_4, exN_5, Ex, or_true, true_or]
        rfl
  · rintro ⟨b1, b2⟩
    have e8 : ((8 : Int32) ≤ N 8) = True := N_ge1 (a := 8) (b := 8) (Nat.le_refl 8) (by decide)
    rw [s85_8]
    simp only [m85, s85_0, s85_1, s85_2, s85_3, s85_5, s85_6, s85_10, s85_12, s85_15, s85_16, s85_17, s85_18, s85_20, s85_21, s85_24, s85_26, s85_27, s85_28, s85_31, s85_33, s85_35, s85_38, s85_39, s85_42, s85_43, s85_45, s85_47, s85_50, s85_51, s85_52, s85_53, s85_55, s85_58, s85_61, s85_63, s85_64, s85_66, s85_68, s85_71, s85_74, s85_75, e8, if_false, if_true, ck_v, ck_x, Option.toList, List.cons_append, List.nil_append, kil_nil, N_1, o10, o00, exN_0, exN_1, exN_2, exN_3, exN_4, exN_5, Ex]
end CMOD
