/-! THE METHODS' MEANING: a trial begins; a plan is carried out -/
def chV (V : Vw) (k : Nat) (c : Nat) : Vw := (V.1, vn V, (fun i f => if i = k ∧ f = 3 then N c else vf V i f), V.2.2.2)
def mvV (V : Vw) : List (Nat × Nat) → Vw
  | [] => V
  | m :: ms => mvV (chV V m.1 m.2) ms
def mvB (B : Bk) : List (Nat × Nat) → Bk
  | [] => B
  | m :: ms => mvB (fdB B m.1 3 (N m.2)) ms
theorem mvB_eq : ∀ (ms : List (Nat × Nat)) (B : Bk), mvB B ms = (mvV B.1 ms, B.2)
  | [], B => rfl
  | m :: ms, B => mvB_eq ms _
theorem mvV_n : ∀ (ms : List (Nat × Nat)) (V : Vw), vn (mvV V ms) = vn V
  | [], V => rfl
  | m :: ms, V => mvV_n ms _
theorem mvV_id : ∀ (ms : List (Nat × Nat)) (V : Vw) (k : Nat), vf (mvV V ms) k 0 = vf V k 0
  | [], V, k => rfl
  | m :: ms, V, k => (mvV_id ms _ k).trans (if_neg (by omega))
def planB (B : Bk) (mv : Int32) (p : Nat → Int32) : Bk := (B.1, B.2.1, mv, p)
def plI (I : OId → Nat → Int32) : Nat → Int32 := fun x => if x % 3 = 0 then I (22, 8, 0) (x / 3) else if x % 3 = 1 then I (23, 8, 0) (x / 3) else I (24, 8, 0) (x / 3)
def inj (V : Vw) : Prop := ∀ a b, a < vn V → b < vn V → vf V a 0 = vf V b 0 → a = b
theorem fid_of {V : Vw} (h : inj V) {k : Nat} (hk : k < vn V) : fid V (vf V k 0) = k := fs_eq hk (by simp) (fun i hi => by
  refine decide_eq_false (fun q => ?_)
  have := h i k (by omega) hk q
  omega)
/-- the plan that was found is ms, the served station's channel is c -/
def PLN (I : OId → Nat → Int32) (V : Vw) (ms : List (Nat × Nat)) (c : Int32) : Prop :=
  ms.length ≤ 2 ∧ I (7, 8, 0) 0 = N ms.length ∧ I (7, 8, 0) 1 = c ∧ ∀ i k e, ms[i]? = some (k, e) → k < vn V ∧ I (22, 8, 0) i = vf V k 0 ∧ I (24, 8, 0) i = N e
section CARRY
variable {d : Nat} {I I' : OId → Nat → Int32} {M R : OId → Nat → AV} {G : SG} {B B' : Bk} {hs : List Bk} {sn : Option Bk}
theorem CR.startTrial {x y days : Int32} {c : Nat} (hR : RF R) (h : CR I B hs sn) (hW : WV B.1) (h1 : rg x 0 99 ∧ rg y 0 99) (h2 : rg days 1 30) (h3 : vn B.1 < 7) (hq : qfv B.1 x y 8 = some c) : ∃ I', evm (d + 4) 84 [aR (11, 0, 0), aI x, aI y, aI days] (I, M, R, G) = some (.inl (some (aI (bnext B))), (I', M, R, G)) ∧ CR I' (addB B x y (N c) (bday B + days) false) (kph B hs) sn ∧ FB I I' := by
  obtain ⟨I1, k1, k2, k3⟩ := h.keep (d := d) (M := M) (G := G) hR
  have hb := append_ba (x := x) (y := y) (e := bday B + days) (t := 1) k2.1 h3
  have hb2 := fd_ba (k := vn B.1) (g := 3) (v := N c) hb (by decide)
  rw [fd_add, show decide (bb 1 = 0) = false from by decide] at hb2
  have fr : Fr0 I1 (setI (apI I1 (vn B.1) x y (bday B + days) 1) (10, 0, vn B.1) 3 (N c)) := fun o ho => by
    rw [setI_ne (by rintro rfl; exact ho ⟨rfl, by simp⟩), apI_ne (by rintro rfl; exact ho ⟨rfl, by simp⟩) (by rintro rfl; exact ho ⟨rfl, by simp⟩)]
  refine ⟨_, ?_, k2.mod fr hb2, k3.tr fr.fb⟩
  have hc8 : c < 8 := (bestf_lt (show bestf _ _ 8 = some c from hq)).1
  have em : (N c = -1) = False := by
    refine eq_false (fun q => ?_)
    have := N_neg (a := c) (by omega)
    rw [q] at this
    exact absurd this (by decide)
  have e4 : setI (apI I1 (vn B.1) x y (bday B + days) 1) (10, 0, vn B.1) 3 (N c) (4, 0, 0) 4 = bnext B := by
    have := hb2.2.2.1
    have e9 : bnext (addB B x y (N c) (bday B + days) false) = bnext B + 1 := rfl
    rw [e9] at this
    exact (Int32.add_left_inj 1).mp this
  simp only [m84, s84_0, s84_1, s84_2, s84_5, s84_6, s84_7, s84_9, s84_12, s84_13, s84_16, s84_17, s84_20, s84_21, s84_22, s84_25, s84_27, s84_29, s84_30, s84_33, s84_36, s84_43, s84_44, s84_47, s84_48, s84_51, s84_54, s84_55, s84_58, s84_59, s84_60, s84_61, s84_64, s84_67, s84_68, s84_69, s84_70, s84_73, s84_75, s84_76, s84_79, s84_81, s84_84, s84_86, s84_89, s84_90, s84_93, s84_96, checkPoint_ok, checkRange_ok, checkRoom_ok hR h.1.1, if_pos h1, if_pos h2, if_pos h3, hR.o.1, hR.o.2.1, quietestFree_ok hR h.1.1 hW, hq, och, em, k1, k2.1.2.1, append_ok hR k2.1 h3 (Or.inr rfl), at_N hR (show 0 < 8 by decide) h3, e4, if_false, if_true, ck_v, ck_x, Option.toList, List.cons_append, List.nil_append, kil_nil, N_1, o10, o00, exN_0, exN_1, exN_2, exN_3, exN_4, exN_5, Ex]
theorem startTrial_no0 {x y days : Int32} (h : ¬ ((rg x 0 99 ∧ rg y 0 99) ∧ rg days 1 30)) : evm (d + 4) 84 [aR (11, 0, 0), aI x, aI y, aI days] (I, M, R, G) = Ex 0 (I, M, R, G) := by
  by_cases h1 : rg x 0 99 ∧ rg y 0 99
  · have h2 : ¬ rg days 1 30 := fun q => h ⟨h1, q⟩
    simp only [m84, s84_0, s84_1, s84_2, s84_5, s84_6, s84_7, s84_9, s84_12, s84_13, s84_16, s84_17, s84_20, s84_21, s84_22, s84_25, s84_27, s84_29, s84_30, s84_33, s84_36, s84_43, s84_44, s84_47, s84_48, s84_51, s84_54, s84_55, s84_58, s84_59, s84_60, s84_61, s84_64, s84_67, s84_68, s84_69, s84_70, s84_73, s84_75, s84_76, s84_79, s84_81, s84_84, s84_86, s84_89, s84_90, s84_93, s84_96, checkPoint_ok, checkRange_ok, if_pos h1, if_neg h2, if_false, if_true, ck_v, ck_x, Option.toList, List.cons_append, List.nil_append, kil_nil, N_1, o10, o00, exN_0, exN_1, exN_2, exN_3, exN_4, exN_5, Ex]
  · simp only [m84, s84_0, s84_1, s84_2, s84_5, s84_6, s84_7, s84_9, s84_12, s84_13, s84_16, s84_17, s84_20, s84_21, s84_22, s84_25, s84_27, s84_29, s84_30, s84_33, s84_36, s84_43, s84_44, s84_47, s84_48, s84_51, s84_54, s84_55, s84_58, s84_59, s84_60, s84_61, s84_64, s84_67, s84_68, s84_69, s84_70, s84_73, s84_75, s84_76, s84_79, s84_81, s84_84, s84_86, s84_89, s84_90, s84_93, s84_96, checkPoint_ok, if_neg h1, if_false, if_true, ck_v, ck_x, Option.toList, List.cons_append, List.nil_append, kil_nil, N_1, o10, o00, exN_0, exN_1, exN_2, exN_3, exN_4, exN_5, Ex]
theorem CR.startTrial_no1 {x y days : Int32} (hR : RF R) (h : CR I B hs sn) (h1 : rg x 0 99 ∧ rg y 0 99) (h2 : rg days 1 30) (h3 : ¬ vn B.1 < 7) : evm (d + 4) 84 [aR (11, 0, 0), aI x, aI y, aI days] (I, M, R, G) = Ex 1 (I, M, R, G) := by
  simp only [m84, s84_0, s84_1, s84_2, s84_5, s84_6, s84_7, s84_9, s84_12, s84_13, s84_16, s84_17, s84_20, s84_21, s84_22, s84_25, s84_27, s84_29, s84_30, s84_33, s84_36, s84_43, s84_44, s84_47, s84_48, s84_51, s84_54, s84_55, s84_58, s84_59, s84_60, s84_61, s84_64, s84_67, s84_68, s84_69, s84_70, s84_73, s84_75, s84_76, s84_79, s84_81, s84_84, s84_86, s84_89, s84_90, s84_93, s84_96, checkPoint_ok, checkRange_ok, checkRoom_ok hR h.1.1, if_pos h1, if_pos h2, if_neg h3, if_false, if_true, ck_v, ck_x, Option.toList, List.cons_append, List.nil_append, kil_nil, N_1, o10, o00, exN_0, exN_1, exN_2, exN_3, exN_4, exN_5, Ex]
theorem CR.startTrial_no2 {x y days : Int32} (hR : RF R) (h : CR I B hs sn) (hW : WV B.1) (h1 : rg x 0 99 ∧ rg y 0 99) (h2 : rg days 1 30) (h3 : vn B.1 < 7) (hq : qfv B.1 x y 8 = none) : evm (d + 4) 84 [aR (11, 0, 0), aI x, aI y, aI days] (I, M, R, G) = Ex 2 (I, M, R, G) := by
  simp only [m84, s84_0, s84_1, s84_2, s84_5, s84_6, s84_7, s84_9, s84_12, s84_13, s84_16, s84_17, s84_20, s84_21, s84_22, s84_25, s84_27, s84_29, s84_30, s84_33, s84_36, s84_43, s84_44, s84_47, s84_48, s84_51, s84_54, s84_55, s84_58, s84_59, s84_60, s84_61, s84_64, s84_67, s84_68, s84_69, s84_70, s84_73, s84_75, s84_76, s84_79, s84_81, s84_84, s84_86, s84_89, s84_90, s84_93, s84_96, checkPoint_ok, checkRange_ok, checkRoom_ok hR h.1.1, if_pos h1, if_pos h2, if_pos h3, hR.o.1, quietestFree_ok hR h.1.1 hW, hq, och, if_false, if_true, ck_v, ck_x, Option.toList, List.cons_append, List.nil_append, kil_nil, N_1, o10, o00, exN_0, exN_1, exN_2, exN_3, exN_4, exN_5, Ex]
theorem coMoves {n : Nat} {s : Int32} (hR : RF R) (hn : n ≤ 2) : ∀ (ms : List (Nat × Nat)) (m : Nat) (I : OId → Nat → Int32) (B : Bk), m + ms.length = n → BA I 0 B → inj B.1 → I (7, 8, 0) 0 = N n → (∀ i k e, ms[i]? = some (k, e) → k < vn B.1 ∧ I (22, 8, 0) (m + i) = vf B.1 k 0 ∧ I (24, 8, 0) (m + i) = N e) → ∃ I', ev (evm (d + 4)) 79 2 [some (aR (4, 0, 0)), some (aR (7, 8, 0)), some (aI s), some (aI (N m))] [] [] (I, M, R, G) = ev (evm (d + 4)) 79 43 [some (aR (4, 0, 0)), some (aR (7, 8, 0)), some (aI s), some (aI (N n))] [] [] (I', M, R, G) ∧ BA I' 0 (mvB B ms) ∧ Fr0 I I'
  | [], m, I, B, hm, h, hi, h0, hr => by
    have e : m = n := by simpa using hm
    subst e
    refine ⟨I, ?_, h, Fr0.rf⟩
    rw [s79_2]
    simp only [m79, s79_0, s79_1, s79_3, s79_4, s79_7, s79_10, s79_11, s79_12, s79_13, s79_16, s79_17, s79_20, s79_23, s79_26, s79_27, s79_30, s79_31, s79_34, s79_37, s79_40, s79_44, s79_45, s79_48, s79_49, s79_52, s79_55, s79_56, s79_59, s79_60, s79_63, s79_64, s79_67, s79_68, s79_69, s79_71, s79_74, s79_75, s79_76, s79_79, s79_82, s79_85, s79_86, s79_87, s79_90, s79_93, s79_94, s79_95, s79_98, s79_99, s79_100, s79_103, s79_104, s79_105, s79_108, s79_111, s79_114, h0, N_ge1 (Nat.le_refl m) (show m < 2147483648 by omega), if_false, if_true, ck_v, ck_x, Option.toList, List.cons_append, List.nil_append, kil_nil, N_1, o10, o00, exN_0, exN_1, exN_2, exN_3, exN_4, exN_5, Ex]
  | (k, e) :: ms, m, I, B, hm, h, hi, h0, hr => by
    have hm' : m + 1 + ms.length = n := by rw [List.length_cons] at hm; omega
    obtain ⟨hk, r1, r2⟩ := hr 0 k e rfl
    have hb := fd_ba (k := k) (g := 3) (v := N e) h (by decide)
    have h7 := h.1.2.2.1
    have hf : fs (fun i => decide (vf B.1 i 0 = vf B.1 k 0)) (vn B.1) = k := fid_of hi hk
    obtain ⟨I', e1, e2, e3⟩ := coMoves (s := s) hR hn ms (m + 1) _ _ hm' hb (show inj (fdB B k 3 (N e)).1 from fun a b ha hb q => hi a b ha hb (by
        have q1 : vf (fdB B k 3 (N e)).1 a 0 = vf B.1 a 0 := if_neg (by omega)
        have q2 : vf (fdB B k 3 (N e)).1 b 0 = vf B.1 b 0 := if_neg (by omega)
        rwa [q1, q2] at q)) (by rw [setI_ne (by simp)]; exact h0) (fun i k' e' hq => by
          obtain ⟨a1, a2, a3⟩ := hr (i + 1) k' e' (by rw [List.getElem?_cons_succ]; exact hq)
          rw [setI_ne (by simp), setI_ne (by simp), show m + 1 + i = m + (i + 1) by omega]
          exact ⟨a1, a2.trans (if_neg (by omega)).symm, a3⟩)
    refine ⟨I', ?_, e2, fr0_fd.tr e3⟩
    have k22 : kOf (22, 8, 0) = .inr (.int, 2) := rfl
    have k24 : kOf (24, 8, 0) = .inr (.int, 2) := rfl
    rw [s79_2]
    simp only [m79, s79_0, s79_1, s79_3, s79_4, s79_7, s79_10, s79_11, s79_12, s79_13, s79_16, s79_17, s79_20, s79_23, s79_26, s79_27, s79_30, s79_31, s79_34, s79_37, s79_40, s79_44, s79_45, s79_48, s79_49, s79_52, s79_55, s79_56, s79_59, s79_60, s79_63, s79_64, s79_67, s79_68, s79_69, s79_71, s79_74, s79_75, s79_76, s79_79, s79_82, s79_85, s79_86, s79_87, s79_90, s79_93, s79_94, s79_95, s79_98, s79_99, s79_100, s79_103, s79_104, s79_105, s79_108, s79_111, s79_114, h0, N_ge (show m < n by omega) (show n < 2147483648 by omega), (hR.2.2.1 8 (by decide)).1, (hR.2.2.1 8 (by decide)).2.2, get_N (S := (I, M, R, G)) k22 (fun _ => rfl) (show m < 2 by omega) (by decide), get_N (S := (I, M, R, G)) k24 (fun _ => rfl) (show m < 2 by omega) (by decide), show I (22, 8, 0) m = vf B.1 k 0 from r1, show I (24, 8, 0) m = N e from r2, findV hR (show 0 < 8 by decide) h.1, hf, plc_p hk, at_N hR (show 0 < 8 by decide) (show k < 7 by omega), if_false, if_true, ck_v, ck_x, Option.toList, List.cons_append, List.nil_append, kil_nil, N_1, o10, o00, exN_0, exN_1, exN_2, exN_3, exN_4, exN_5, Ex]
    exact e1
theorem plan_ba (h : BA I 0 B) (hp : ∀ q, q = 7 ∨ q = 22 ∨ q = 23 ∨ q = 24 → ∀ f, f < 2 → I' (q, 0, 0) f = I (q, 8, 0) f) (hf : ∀ o, inBk 0 o → o.1 ≠ 7 → o.1 ≠ 22 → o.1 ≠ 23 → o.1 ≠ 24 → I' o = I o) : BA I' 0 (planB B (I (7, 8, 0) 0) (plI I)) := by
  obtain ⟨hV, a3, a4, a5, a6, hm, hpl, hz⟩ := h
  have e4 : I' (4, 0, 0) = I (4, 0, 0) := hf _ ⟨rfl, by simp⟩ (by simp) (by simp) (by simp) (by simp)
  have e21 : I' (21, 0, 0) = I (21, 0, 0) := hf _ ⟨rfl, by simp⟩ (by simp) (by simp) (by simp) (by simp)
  have e10 : ∀ k, I' (10, 0, k) = I (10, 0, k) := fun k => hf _ ⟨rfl, by simp⟩ (by simp) (by simp) (by simp) (by simp)
  refine ⟨?_, ?_, ?_, ?_, ?_, ?_, ?_, ?_⟩
  · unfold BV at hV ⊢
    simp only [e4, e21, e10]
    exact hV
  · rw [e4]; exact a3
  · rw [e4]; exact a4
  · rw [e4]; exact a5
  · rw [e4]; exact a6
  · exact hp 7 (by simp) 0 (by decide)
  · intro m hm
    refine ⟨?_, ?_, ?_⟩
    · rw [hp 22 (by simp) m hm]
      show _ = plI I (3 * m)
      unfold plI
      rw [if_pos (by omega), show 3 * m / 3 = m by omega]
    · rw [hp 23 (by simp) m hm]
      show _ = plI I (3 * m + 1)
      unfold plI
      rw [if_neg (by omega), if_pos (by omega), show (3 * m + 1) / 3 = m by omega]
    · rw [hp 24 (by simp) m hm]
      show _ = plI I (3 * m + 2)
      unfold plI
      rw [if_neg (by omega), if_neg (by omega), show (3 * m + 2) / 3 = m by omega]
  · rw [e21]; exact hz
theorem etLoop {s p : AV} (hR : RF R) : ∀ (i : Nat) (I : OId → Nat → Int32) (B : Bk), BA I 0 B → i ≤ vn B.1 → ∃ I', ev (evm (d + 5)) 79 70 [some (aR (4, 0, 0)), some p, some s, some (aI (N i - 1))] [] [] (I, M, R, G) = some (.inl none, (I', M, R, G)) ∧ BA I' 0 (etL i B) ∧ Fr0 I I'
  | 0, I, B, h, _ => by
    refine ⟨I, ?_, h, Fr0.rf⟩
    have e : N 0 - 1 < 0 := by decide
    rw [s79_70]
    simp only [m79, s79_0, s79_1, s79_3, s79_4, s79_7, s79_10, s79_11, s79_12, s79_13, s79_16, s79_17, s79_20, s79_23, s79_26, s79_27, s79_30, s79_31, s79_34, s79_37, s79_40, s79_43, s79_44, s79_45, s79_48, s79_49, s79_52, s79_55, s79_56, s79_59, s79_60, s79_63, s79_64, s79_67, s79_68, s79_69, s79_71, s79_74, s79_75, s79_76, s79_79, s79_82, s79_85, s79_86, s79_87, s79_90, s79_93, s79_94, s79_95, s79_98, s79_99, s79_100, s79_103, s79_104, s79_105, s79_108, s79_111, s79_114, if_pos e]
  | i + 1, I, B, h, hi => by
    have h7 := h.1.2.2.1
    have e0 : N (i + 1) - 1 = N i := sub_N (by omega) (by omega)
    have e2 : N i + -1 = N i - 1 := addm _
    have hl := h.1.2.2.2.2.1 i (by omega)
    have hw := conflictsWithLicensed_ok (d := d) (M := M) (G := G) hR (show 0 < 8 by decide) h.1 (show i < vn B.1 by omega)
    by_cases hx : vl B.1 i = false ∧ fs (way B.1 i) (vn B.1) < vn B.1
    · have hb := remove_ba h (show i < vn B.1 by omega)
      have e5 : rvI I i (vn B.1) (4, 0, 0) 6 = bend B := hb.2.2.2.2.1
      have hb2 : BA (setI (rvI I i (vn B.1)) (4, 0, 0) 6 (bend B + 1)) 0 (endB (remB B i)) := scal_ba hb (by decide) rfl rfl rfl rfl
      obtain ⟨I', h1, h2, h3⟩ := etLoop (s := s) (p := p) hR i _ _ hb2 (by show i ≤ vn B.1 - 1; omega)
      refine ⟨I', ?_, ?_, (Fr0.rv.st in4).tr h3⟩
      · rw [if_neg (by rw [hx.1]; simp)] at hl
        rw [s79_70]
        simp only [m79, s79_0, s79_1, s79_3, s79_4, s79_7, s79_10, s79_11, s79_12, s79_13, s79_16, s79_17, s79_20, s79_23, s79_26, s79_27, s79_30, s79_31, s79_34, s79_37, s79_40, s79_43, s79_44, s79_45, s79_48, s79_49, s79_52, s79_55, s79_56, s79_59, s79_60, s79_63, s79_64, s79_67, s79_68, s79_69, s79_71, s79_74, s79_75, s79_76, s79_79, s79_82, s79_85, s79_86, s79_87, s79_90, s79_93, s79_94, s79_95, s79_98, s79_99, s79_100, s79_103, s79_104, s79_105, s79_108, s79_111, s79_114, e0, N_neg (show i < 2147483648 by omega), at_N hR (show 0 < 8 by decide) (show i < 7 by omega), hl, hw, if_pos hx.2, remove_ok hR h (show i < vn B.1 by omega), if_false, if_true, ck_v, ck_x, Option.toList, List.cons_append, List.nil_append, kil_nil, N_1, o10, o00, exN_0, exN_1, exN_2, exN_3, exN_4, exN_5, Ex, e5, e2]
        exact h1
      · unfold etL
        rw [if_pos hx]
        exact h2
    · obtain ⟨I', h1, h2, h3⟩ := etLoop (s := s) (p := p) hR i I B h (by omega)
      refine ⟨I', ?_, ?_, h3⟩
      · rw [s79_70]
        cases hv : vl B.1 i with
        | true =>
          rw [if_pos hv] at hl
          simp only [m79, s79_0, s79_1, s79_3, s79_4, s79_7, s79_10, s79_11, s79_12, s79_13, s79_16, s79_17, s79_20, s79_23, s79_26, s79_27, s79_30, s79_31, s79_34, s79_37, s79_40, s79_43, s79_44, s79_45, s79_48, s79_49, s79_52, s79_55, s79_56, s79_59, s79_60, s79_63, s79_64, s79_67, s79_68, s79_69, s79_71, s79_74, s79_75, s79_76, s79_79, s79_82, s79_85, s79_86, s79_87, s79_90, s79_93, s79_94, s79_95, s79_98, s79_99, s79_100, s79_103, s79_104, s79_105, s79_108, s79_111, s79_114, e0, N_neg (show i < 2147483648 by omega), at_N hR (show 0 < 8 by decide) (show i < 7 by omega), hl, if_false, if_true, ck_v, ck_x, Option.toList, List.cons_append, List.nil_append, kil_nil, N_1, o10, o00, exN_0, exN_1, exN_2, exN_3, exN_4, exN_5, Ex, e2]
          exact h1
        | false =>
          rw [if_neg (by rw [hv]; simp)] at hl
          have hf : ¬ fs (way B.1 i) (vn B.1) < vn B.1 := fun q => hx ⟨hv, q⟩
          simp only [m79, s79_0, s79_1, s79_3, s79_4, s79_7, s79_10, s79_11, s79_12, s79_13, s79_16, s79_17, s79_20, s79_23, s79_26, s79_27, s79_30, s79_31, s79_34, s79_37, s79_40, s79_43, s79_44, s79_45, s79_48, s79_49, s79_52, s79_55, s79_56, s79_59, s79_60, s79_63, s79_64, s79_67, s79_68, s79_69, s79_71, s79_74, s79_75, s79_76, s79_79, s79_82, s79_85, s79_86, s79_87, s79_90, s79_93, s79_94, s79_95, s79_98, s79_99, s79_100, s79_103, s79_104, s79_105, s79_108, s79_111, s79_114, e0, N_neg (show i < 2147483648 by omega), at_N hR (show 0 < 8 by decide) (show i < 7 by omega), hl, hw, if_neg hf, if_false, if_true, ck_v, ck_x, Option.toList, List.cons_append, List.nil_append, kil_nil, N_1, o10, o00, exN_0, exN_1, exN_2, exN_3, exN_4, exN_5, Ex, e2]
          exact h1
      · unfold etL
        rw [if_neg hx]
        exact h2
/-- the books behind a plan that was carried out -/
def coB (B : Bk) (ms : List (Nat × Nat)) (s : Nat) (c : Int32) (p : Nat → Int32) : Bk := etL (vn B.1) (planB (fdB (mvB B ms) s 3 c) (N ms.length) p)
theorem carryOut_ok {ms : List (Nat × Nat)} {s : Nat} {c : Int32} (hR : RF R) (h : BA I 0 B) (hi : inj B.1) (hs : s < vn B.1) (hp : PLN I B.1 ms c) : ∃ I', evm (d + 6) 79 [aR (4, 0, 0), aR (7, 8, 0), aI (N s)] (I, M, R, G) = some (.inl none, (I', M, R, G)) ∧ BA I' 0 (coB B ms s c (plI I)) ∧ Fr0 I I' := by
  obtain ⟨hl, p0, p1, pr⟩ := hp
  obtain ⟨I1, e1, b1, f1⟩ := coMoves (d := d + 1) (M := M) (G := G) (s := N s) hR hl ms 0 I B (by omega) h hi p0 (fun i k e hq => by rw [Nat.zero_add]; exact pr i k e hq)
  have h7 := h.1.2.2.1
  have en : vn (mvB B ms).1 = vn B.1 := by rw [mvB_eq]; exact mvV_n _ _
  have b2 := fd_ba (k := s) (g := 3) (v := c) b1 (by decide)
  have f2 : Fr0 I (setI I1 (10, 0, s) 3 c) := f1.tr fr0_fd
  have q8 : ∀ q, q = 7 ∨ q = 22 ∨ q = 23 ∨ q = 24 → setI I1 (10, 0, s) 3 c (q, 8, 0) = I (q, 8, 0) := fun q _ => f2 _ (fun w => by have := w.1; simp at this)
  have hpb : plI (setI I1 (10, 0, s) 3 c) = plI I := by
    funext x
    unfold plI
    rw [q8 22 (by simp), q8 23 (by simp), q8 24 (by simp)]
  have b3 : BA (cpR (cpR (cpR (cpR (setI I1 (10, 0, s) 3 c) (7, 0, 0) (7, 8, 0) 2) (22, 0, 0) (22, 8, 0) 2) (23, 0, 0) (23, 8, 0) 2) (24, 0, 0) (24, 8, 0) 2) 0 (planB (fdB (mvB B ms) s 3 c) (setI I1 (10, 0, s) 3 c (7, 8, 0) 0) (plI (setI I1 (10, 0, s) 3 c))) := plan_ba b2 (fun q hq f hf => by
    rcases hq with rfl | rfl | rfl | rfl <;> simp [cpR, hf]) (fun o ho h7 h22 h23 h24 => by
    funext f
    obtain ⟨a, b, e⟩ := o
    simp only at h7 h22 h23 h24
    simp [cpR, h7, h22, h23, h24])
  rw [hpb, q8 7 (by simp), p0] at b3
  have f3 : Fr0 I (cpR (cpR (cpR (cpR (setI I1 (10, 0, s) 3 c) (7, 0, 0) (7, 8, 0) 2) (22, 0, 0) (22, 8, 0) 2) (23, 0, 0) (23, 8, 0) 2) (24, 0, 0) (24, 8, 0) 2) := f2.tr (fun o ho => by
    have n : ∀ q, q = 7 ∨ q = 22 ∨ q = 23 ∨ q = 24 → o ≠ ((q, 0, 0) : OId) := fun q hq e => ho (by rw [e]; exact ⟨rfl, by show q = 4 ∨ _; omega⟩)
    funext f
    simp [cpR, n 7, n 22, n 23, n 24])
  obtain ⟨I', e4, b4, f4⟩ := etLoop (d := d) (M := M) (G := G) (s := aI (N s)) (p := aR (7, 8, 0)) hR (vn B.1) _ _ b3 (by show vn B.1 ≤ vn (mvB B ms).1; rw [en]; exact Nat.le_refl _)
  refine ⟨I', ?_, b4, f3.tr f4⟩
  rw [m79]
  have e7 : cpR (cpR (cpR (cpR (setI I1 (10, 0, s) 3 c) (7, 0, 0) (7, 8, 0) 2) (22, 0, 0) (22, 8, 0) 2) (23, 0, 0) (23, 8, 0) 2) (24, 0, 0) (24, 8, 0) 2 (4, 0, 0) 7 = N (vn B.1) := by
    rw [b3.1.2.1]
    show N (vn (mvB B ms).1) = _
    rw [en]
  have p1' : I1 (7, 8, 0) 1 = c := by rw [f1 _ (fun w => by have := w.1; simp at this)]; exact p1
  simp only [s79_0, s79_1, kil_nil]
  refine e1.trans ?_
  rw [s79_43]
  simp only [m79, s79_0, s79_1, s79_3, s79_4, s79_7, s79_10, s79_11, s79_12, s79_13, s79_16, s79_17, s79_20, s79_23, s79_26, s79_27, s79_30, s79_31, s79_34, s79_37, s79_40, s79_43, s79_44, s79_45, s79_48, s79_49, s79_52, s79_55, s79_56, s79_59, s79_60, s79_63, s79_64, s79_67, s79_68, s79_69, s79_71, s79_74, s79_75, s79_76, s79_79, s79_82, s79_85, s79_86, s79_87, s79_90, s79_93, s79_94, s79_95, s79_98, s79_99, s79_100, s79_103, s79_104, s79_105, s79_108, s79_111, s79_114, at_N hR (show 0 < 8 by decide) (show s < 7 by omega), p1', (hR.b (show 0 < 8 by decide)).2.2.2.1, takeP_ok hR (show 0 < 9 by decide) (show 8 < 9 by decide) (show 8 ≠ 0 by decide), e7, if_false, if_true, ck_v, ck_x, Option.toList, List.cons_append, List.nil_append, kil_nil, N_1, o10, o00, exN_0, exN_1, exN_2, exN_3, exN_4, exN_5, Ex]
  exact e4
end CARRY
