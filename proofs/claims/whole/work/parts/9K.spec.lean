/-! THE METHODS' MEANING: the law's calls, plans (genC2.py) -/
theorem val_all {q : Qy} : ∀ (ms : List (Nat × Nat)) (V : Vw), val q V ms → ∀ m, m ∈ ms → m.2 < 8
  | [], _, _, m, hm => absurd hm List.not_mem_nil
  | m9 :: ms, V, hv, m, hm => by
    obtain ⟨h1, h2, h3, h4⟩ := hv
    rcases List.mem_cons.mp hm with rfl | hm
    · exact h2
    · exact val_all ms _ h4 m hm
theorem plan_ok {q : Qy} {V : Vw} {r : Pln} (h : planF q V = some r) : r.1.length ≤ 2 ∧ r.2 < 8 ∧ ∀ m, m ∈ r.1 → m.2 < 8 := by
  obtain ⟨h1, h2, h3⟩ := planF_val h
  exact ⟨by omega, (bestf_lt (show bestf _ _ 8 = some r.2 from h2)).1, val_all _ _ h3⟩
theorem mvB_n (B : Bk) (ms : List (Nat × Nat)) : vn (mvB B ms).1 = vn B.1 := by
  rw [mvB_eq]
  exact mvV_n ms B.1
theorem bits_tab : ∀ m, m < 256 → N m = sm (fun c => if m.testBit c = true then (1 : Int32) <<< (N c &&& 31) else 0) 8 := by decide +kernel
theorem open_eq {V : Vw} {x y : Int32} (hW : WV V) : N (omk V ((x, y), none, none, none) (Ls V none)) = sm (fun c => if freeS V ((x, y), none, none, none) c = true then 1 <<< (N c &&& 31) else 0) 8 := by
  rw [bits_tab _ omk_lt]
  refine sm_congr (fun c hc => ?_)
  have h9 : (omk V ((x, y), none, none, none) (Ls V none)).testBit c = (decide ((none : Option Nat) = none ∨ (none : Option Nat) = some c) && freeS V ((x, y), none, none, none) c) := omk_bit (q := ((x, y), none, none, none)) (sb_of hW qb_n) hc
  have h8 : (decide ((none : Option Nat) = none ∨ (none : Option Nat) = some c)) = true := decide_eq_true (Or.inl rfl)
  rw [h8, Bool.true_and] at h9
  rw [h9]
theorem changeQM_ok {d : Nat} {I : OId → Nat → Int32} {M R : OId → Nat → AV} {G : SG} {x y v : Int32} {S : SS} (h : evm (d + 12) 287 [aR (12, 0, 0), aI x, aI y] (I, M, R, G) = some (.inl (some (aI v)), S)) : evm (d + 13) 290 [aR (12, 0, 0), aI x, aI y] (I, M, R, G) = some (.inl (some (aI v)), S) := by
  simp only [m290, s290_0, s290_1, s290_2, s290_3, s290_6, h, if_false, if_true, ck_v, ck_x, Option.toList, List.cons_append, List.nil_append, kil_nil, N_1, o10, o00, exN_0, exN_1, exN_2, exN_3, exN_4, exN_5, Ex]
theorem wc_1 {V : Vw} {id c : Int32} (h : ¬ fid V id < vn V) : wcT V id c = 1 ∧ wcE V id c = 3 := by
  unfold wcT wcE
  rw [if_neg h, if_neg h]
  exact ⟨rfl, rfl⟩
theorem wc_2 {V : Vw} {id c : Int32} (h : fid V id < vn V) (h2 : ¬ rg c 0 7) : wcT V id c = 2 ∧ wcE V id c = 0 := by
  unfold wcT wcE
  rw [if_pos h, if_neg h2, if_pos h, if_neg h2]
  exact ⟨rfl, rfl⟩
theorem wc_3 {V : Vw} {id c : Int32} (h0 : wcT V id c ≠ 0) (h : fid V id < vn V) (h2 : rg c 0 7) : wcT V id c = 3 ∧ wcE V id c = 1 := by
  refine ⟨?_, ?_⟩
  · unfold wcT at h0 ⊢
    rw [if_pos h, if_pos h2] at h0 ⊢
    by_cases hl : vl V (fid V id) = true
    · rw [if_pos hl] at h0 ⊢
      by_cases hc : vf V (fid V id) 3 = c
      · rw [if_pos hc]
      · rw [if_neg hc] at h0
        exact absurd rfl h0
    · rw [if_neg hl]
  · unfold wcE
    rw [if_pos h, if_pos h2]
theorem prT_12 {V : Vw} {id other : Int32} (h : prT V id other ≠ 0) : prT V id other = 1 ∨ prT V id other = 2 := by
  unfold prT at h ⊢
  repeat' split at h
  all_goals first
    | exact absurd rfl h
    | skip
  all_goals (repeat' split) <;> first | exact Or.inl rfl | exact Or.inr rfl | (exfalso; simp_all; done)
section CALLS
variable {d i L t : Nat} {xs : Nat → Int32} {I : OId → Nat → Int32} {M R : OId → Nat → AV} {G : SG} {B : Bk} {hs : List Bk} {sn : Option Bk}
theorem call32 (h : lawI t xs (I, M, R, G) B hs sn) (hi : i + 4 ≤ L) (hL : L ≤ 2048) (ht : t < 1000) : goC d L i 1859 t xs (I, M, R, G) := by
  have hR : RF R := h.1.1
  have hC : CR I B hs sn := h.1.2.1
  have hM : MR I B hs sn := h.1.2.2
  have hB : BA I 0 B := hC.1
  have hV : BV I 0 B.1 := hB.1
  have hMV : MV I B.1 := hM.1.mv
  have hO : OB t B := h.2.1.1
  have hW : WV B.1 := hO.1
  have hx : xsS (I, M, R, G) = xs := h.2.2.2.2.2.2
  by_cases hp : rg (xs (i + 1)) 0 99 ∧ rg (xs (i + 2)) 0 99
  · obtain ⟨I1, c1, f1⟩ := CR.openChannels (d := d + 12) (M := M) (G := G) hR hC hW hp
    have mr1 : MR I1 B hs sn := mr_a hM f1.fa
    obtain ⟨I2, c2, g7, f2⟩ := openChannelsM_ok (d := d + 14) (M := setV M (42, 0, 0) 0 (aL (N (omk B.1 (((xs (i + 1)), (xs (i + 2))), none, none, none) (Ls B.1 none))).toInt64)) (G := G) hR mr1.1.mv hp
    rw [← open_eq hW] at c2
    have e1 : evm (d + 20) 136 [aR (11, 0, 0), aI (xs (i + 1)), aI (xs (i + 2)), aR (42, 0, 0)] (I, M, R, G) = some (.inl (some (aI 0)), (I1, setV M (42, 0, 0) 0 (aL (N (omk B.1 (((xs (i + 1)), (xs (i + 2))), none, none, none) (Ls B.1 none))).toInt64), R, G)) := w136_v c1
    have e2 : evm (d + 20) 284 [aR (12, 0, 0), aI (xs (i + 1)), aI (xs (i + 2))] (I1, setV M (42, 0, 0) 0 (aL (N (omk B.1 (((xs (i + 1)), (xs (i + 2))), none, none, none) (Ls B.1 none))).toInt64), R, G) = some (.inl (some (aI (N (omk B.1 (((xs (i + 1)), (xs (i + 2))), none, none, none) (Ls B.1 none))))), (I2, setV M (42, 0, 0) 0 (aL (N (omk B.1 (((xs (i + 1)), (xs (i + 2))), none, none, none) (Ls B.1 none))).toInt64), R, G)) := c2
    exact ⟨(I2, setV M (42, 0, 0) 0 (aL (N (omk B.1 (((xs (i + 1)), (xs (i + 2))), none, none, none) (Ls B.1 none))).toInt64), R, G), _, _, _, fin_v h f1.fa (thr_fm.tr f2.fm) (hC.srch f1) (mr1.th.pf f2) (ob_0 h), lc32 (S1 := (I1, setV M (42, 0, 0) 0 (aL (N (omk B.1 (((xs (i + 1)), (xs (i + 2))), none, none, none) (Ls B.1 none))).toInt64), R, G)) hi hL hx hx e1 e2 (thr_e g7) (fun _ => out_v)⟩
  · have c1 : evm (d + 19) 137 [aR (11, 0, 0), aI (xs (i + 1)), aI (xs (i + 2))] (I, M, R, G) = Ex 0 (I, M, R, G) := openChannels_no (d := d + 12) hp
    have c2 : evm (d + 20) 284 [aR (12, 0, 0), aI (xs (i + 1)), aI (xs (i + 2))] (I, M, R, bG G) = some (.inl (some (aI (0))), ((thr I 1), M, R, bG G)) := openChannelsM_no (d := d + 14) hp
    have e1 : evm (d + 20) 136 [aR (11, 0, 0), aI (xs (i + 1)), aI (xs (i + 2)), aR (42, 0, 0)] (I, M, R, G) = some (.inl (some (aI 1)), (I, M, R, bG G)) := w136_x0 c1
    have e2 : evm (d + 20) 284 [aR (12, 0, 0), aI (xs (i + 1)), aI (xs (i + 2))] (I, M, R, bG G) = some (.inl (some (aI 0)), ((thr I 1), M, R, bG G)) := c2
    exact ⟨((thr I 1), M, R, bG G), _, _, _, rd_x h, lc32 (S1 := (I, M, R, bG G)) hi hL hx hx e1 e2 (thr_e thr_at) (fun q => absurd q (by decide))⟩
theorem call33 (h : lawI t xs (I, M, R, G) B hs sn) (hi : i + 4 ≤ L) (hL : L ≤ 2048) (ht : t < 1000) : goC d L i 1927 t xs (I, M, R, G) := by
  have hR : RF R := h.1.1
  have hC : CR I B hs sn := h.1.2.1
  have hM : MR I B hs sn := h.1.2.2
  have hB : BA I 0 B := hC.1
  have hV : BV I 0 B.1 := hB.1
  have hMV : MV I B.1 := hM.1.mv
  have hO : OB t B := h.2.1.1
  have hW : WV B.1 := hO.1
  have hx : xsS (I, M, R, G) = xs := h.2.2.2.2.2.2
  by_cases hp : rg (xs (i + 1)) 0 99 ∧ rg (xs (i + 2)) 0 99
  · cases hq : planF (((xs (i + 1)), (xs (i + 2))), none, none, none) B.1 with
    | some r =>
      obtain ⟨I1, c1, f1⟩ := CR.movesFor (d := d + 8) (M := M) (G := G) hR hC hW hp hq
      have mr1 : MR I1 B hs sn := mr_a hM f1.fa
      obtain ⟨I2, c2, f2⟩ := movesForM_ok (d := d + 9) (M := setV M (42, 0, 0) 0 (aL (N r.1.length).toInt64)) (G := G) hR mr1.1.mv hp hq
      have e1 : evm (d + 20) 138 [aR (11, 0, 0), aI (xs (i + 1)), aI (xs (i + 2)), aR (42, 0, 0)] (I, M, R, G) = some (.inl (some (aI 0)), (I1, setV M (42, 0, 0) 0 (aL (N r.1.length).toInt64), R, G)) := w138_v c1
      have e2 : evm (d + 20) 285 [aR (12, 0, 0), aI (xs (i + 1)), aI (xs (i + 2))] (I1, setV M (42, 0, 0) 0 (aL (N r.1.length).toInt64), R, G) = some (.inl (some (aI (N r.1.length))), ((thr I2 0), setV M (42, 0, 0) 0 (aL (N r.1.length).toInt64), R, G)) := c2
      exact ⟨((thr I2 0), setV M (42, 0, 0) 0 (aL (N r.1.length).toInt64), R, G), _, _, _, fin_v h f1.fa ((thr_fm.tr f2.fm).tr thr_fm) (hC.srch f1) (mr1.th.pf f2).th (ob_0 h), lc33 (S1 := (I1, setV M (42, 0, 0) 0 (aL (N r.1.length).toInt64), R, G)) hi hL hx hx e1 e2 (thr_e thr_at) (fun _ => out_v)⟩
    | none =>
      obtain ⟨I1, c1, f1⟩ := CR.movesFor_no (d := d + 8) (M := M) (G := G) hR hC hW hp hq
      have mr1 : MR I1 B hs sn := mr_a hM f1.fa
      obtain ⟨I2, v, c2, f2⟩ := movesForM_no (d := d + 9) (M := M) (G := bG G) hR mr1.1.mv hp hq
      have e1 : evm (d + 20) 138 [aR (11, 0, 0), aI (xs (i + 1)), aI (xs (i + 2)), aR (42, 0, 0)] (I, M, R, G) = some (.inl (some (aI 2)), (I1, M, R, bG G)) := w138_x2 c1
      have e2 : evm (d + 20) 285 [aR (12, 0, 0), aI (xs (i + 1)), aI (xs (i + 2))] (I1, M, R, bG G) = some (.inl (some (aI v)), ((thr I2 2), M, R, bG G)) := c2
      exact ⟨((thr I2 2), M, R, bG G), _, _, _, fin_x h f1.fa ((thr_fm.tr f2.fm).tr thr_fm) (hC.srch f1) (mr1.th.pf f2).th (ob_0 h), lc33 (S1 := (I1, M, R, bG G)) hi hL hx hx e1 e2 (thr_e thr_at) (fun q => absurd q (by decide))⟩
  · have c1 : evm (d + 19) 139 [aR (11, 0, 0), aI (xs (i + 1)), aI (xs (i + 2))] (I, M, R, G) = Ex 0 (I, M, R, G) := movesFor_no0 (d := d + 8) hp
    have c2 : evm (d + 20) 285 [aR (12, 0, 0), aI (xs (i + 1)), aI (xs (i + 2))] (I, M, R, bG G) = some (.inl (some (aI (0))), ((thr I 1), M, R, bG G)) := movesForM_no1 (d := d + 9) hp
    have e1 : evm (d + 20) 138 [aR (11, 0, 0), aI (xs (i + 1)), aI (xs (i + 2)), aR (42, 0, 0)] (I, M, R, G) = some (.inl (some (aI 1)), (I, M, R, bG G)) := w138_x0 c1
    have e2 : evm (d + 20) 285 [aR (12, 0, 0), aI (xs (i + 1)), aI (xs (i + 2))] (I, M, R, bG G) = some (.inl (some (aI 0)), ((thr I 1), M, R, bG G)) := c2
    exact ⟨((thr I 1), M, R, bG G), _, _, _, rd_x h, lc33 (S1 := (I, M, R, bG G)) hi hL hx hx e1 e2 (thr_e thr_at) (fun q => absurd q (by decide))⟩
theorem call34 (h : lawI t xs (I, M, R, G) B hs sn) (hi : i + 4 ≤ L) (hL : L ≤ 2048) (ht : t < 1000) : goC d L i 1995 t xs (I, M, R, G) := by
  have hR : RF R := h.1.1
  have hC : CR I B hs sn := h.1.2.1
  have hM : MR I B hs sn := h.1.2.2
  have hB : BA I 0 B := hC.1
  have hV : BV I 0 B.1 := hB.1
  have hMV : MV I B.1 := hM.1.mv
  have hO : OB t B := h.2.1.1
  have hW : WV B.1 := hO.1
  have hx : xsS (I, M, R, G) = xs := h.2.2.2.2.2.2
  by_cases hp : rg (xs (i + 1)) 0 99 ∧ rg (xs (i + 2)) 0 99
  · cases hq : planF (((xs (i + 1)), (xs (i + 2))), none, none, none) B.1 with
    | some r =>
      obtain ⟨I1, c1, f1⟩ := CR.movesByQueue (d := d + 12) (M := M) (G := G) hR hC hW hp hq
      have mr1 : MR I1 B hs sn := mr_a hM f1.fa
      obtain ⟨I2, c2', f2⟩ := movesForM_ok (d := d + 8) (M := setV M (42, 0, 0) 0 (aL (N r.1.length).toInt64)) (G := G) hR mr1.1.mv hp hq
      have c2 := movesForQM_ok (d := d + 8) c2' rfl ⟨_, rfl⟩
      have e1 : evm (d + 20) 140 [aR (11, 0, 0), aI (xs (i + 1)), aI (xs (i + 2)), aR (42, 0, 0)] (I, M, R, G) = some (.inl (some (aI 0)), (I1, setV M (42, 0, 0) 0 (aL (N r.1.length).toInt64), R, G)) := w140_v c1
      have e2 : evm (d + 20) 286 [aR (12, 0, 0), aI (xs (i + 1)), aI (xs (i + 2))] (I1, setV M (42, 0, 0) 0 (aL (N r.1.length).toInt64), R, G) = some (.inl (some (aI (N r.1.length))), ((thr I2 0), setV M (42, 0, 0) 0 (aL (N r.1.length).toInt64), R, G)) := c2
      exact ⟨((thr I2 0), setV M (42, 0, 0) 0 (aL (N r.1.length).toInt64), R, G), _, _, _, fin_v h f1.fa ((thr_fm.tr f2.fm).tr thr_fm) (hC.srch f1) (mr1.th.pf f2).th (ob_0 h), lc34 (S1 := (I1, setV M (42, 0, 0) 0 (aL (N r.1.length).toInt64), R, G)) hi hL hx hx e1 e2 (thr_e thr_at) (fun _ => out_v)⟩
    | none =>
      obtain ⟨I1, c1, f1⟩ := CR.movesByQueue_no (d := d + 12) (M := M) (G := G) hR hC hW hp hq
      have mr1 : MR I1 B hs sn := mr_a hM f1.fa
      obtain ⟨I2, v, c2', f2⟩ := movesForM_no (d := d + 8) (M := M) (G := bG G) hR mr1.1.mv hp hq
      have c2 := movesForQM_ok (d := d + 8) c2' rfl ⟨_, rfl⟩
      have e1 : evm (d + 20) 140 [aR (11, 0, 0), aI (xs (i + 1)), aI (xs (i + 2)), aR (42, 0, 0)] (I, M, R, G) = some (.inl (some (aI 2)), (I1, M, R, bG G)) := w140_x2 c1
      have e2 : evm (d + 20) 286 [aR (12, 0, 0), aI (xs (i + 1)), aI (xs (i + 2))] (I1, M, R, bG G) = some (.inl (some (aI v)), ((thr I2 2), M, R, bG G)) := c2
      exact ⟨((thr I2 2), M, R, bG G), _, _, _, fin_x h f1.fa ((thr_fm.tr f2.fm).tr thr_fm) (hC.srch f1) (mr1.th.pf f2).th (ob_0 h), lc34 (S1 := (I1, M, R, bG G)) hi hL hx hx e1 e2 (thr_e thr_at) (fun q => absurd q (by decide))⟩
  · have c1 : evm (d + 19) 141 [aR (11, 0, 0), aI (xs (i + 1)), aI (xs (i + 2))] (I, M, R, G) = Ex 0 (I, M, R, G) := movesByQueue_no0 (d := d + 12) hp
    have c2 : evm (d + 20) 286 [aR (12, 0, 0), aI (xs (i + 1)), aI (xs (i + 2))] (I, M, R, bG G) = some (.inl (some (aI (0))), ((thr I 1), M, R, bG G)) := movesForQM_ok (d := d + 8) (movesForM_no1 (d := d + 8) hp) rfl ⟨_, rfl⟩
    have e1 : evm (d + 20) 140 [aR (11, 0, 0), aI (xs (i + 1)), aI (xs (i + 2)), aR (42, 0, 0)] (I, M, R, G) = some (.inl (some (aI 1)), (I, M, R, bG G)) := w140_x0 c1
    have e2 : evm (d + 20) 286 [aR (12, 0, 0), aI (xs (i + 1)), aI (xs (i + 2))] (I, M, R, bG G) = some (.inl (some (aI 0)), ((thr I 1), M, R, bG G)) := c2
    exact ⟨((thr I 1), M, R, bG G), _, _, _, rd_x h, lc34 (S1 := (I, M, R, bG G)) hi hL hx hx e1 e2 (thr_e thr_at) (fun q => absurd q (by decide))⟩
theorem call35 (h : lawI t xs (I, M, R, G) B hs sn) (hi : i + 4 ≤ L) (hL : L ≤ 2048) (ht : t < 1000) : goC d L i 2063 t xs (I, M, R, G) := by
  have hR : RF R := h.1.1
  have hC : CR I B hs sn := h.1.2.1
  have hM : MR I B hs sn := h.1.2.2
  have hB : BA I 0 B := hC.1
  have hV : BV I 0 B.1 := hB.1
  have hMV : MV I B.1 := hM.1.mv
  have hO : OB t B := h.2.1.1
  have hW : WV B.1 := hO.1
  have hx : xsS (I, M, R, G) = xs := h.2.2.2.2.2.2
  by_cases hw : wcT B.1 (xs (i + 1)) (xs (i + 2)) = 0
  · obtain ⟨w, w1, w2⟩ := rg_N (b := 7) (by decide) (wcT_0 hw).2.1
    have hw' := hw
    rw [w2] at hw'
    cases hq : planF (qsl B.1 (fid B.1 (xs (i + 1))) (some w) none) B.1 with
    | some r =>
      obtain ⟨I1, c1', f1⟩ := CR.movesToChange (d := d + 8) (M := M) (G := G) hR hC hW (by omega) hw' hq
      have mr1 : MR I1 B hs sn := mr_a hM f1.fa
      obtain ⟨I2, c2', f2⟩ := movesToChangeM_ok (d := d + 8) (M := setV M (42, 0, 0) 0 (aL (N r.1.length).toInt64)) (G := G) hR mr1.1.mv (by omega) hw' hq
      have c1 : evm (d + 19) 148 [aR (11, 0, 0), aI (xs (i + 1)), aI (xs (i + 2))] (I, M, R, G) = some (.inl (some (aI (N r.1.length))), (I1, M, R, G)) := by
        rw [w2]
        exact c1'
      have c2 : evm (d + 20) 287 [aR (12, 0, 0), aI (xs (i + 1)), aI (xs (i + 2))] (I1, setV M (42, 0, 0) 0 (aL (N r.1.length).toInt64), R, G) = some (.inl (some (aI (N r.1.length))), ((thr I2 0), setV M (42, 0, 0) 0 (aL (N r.1.length).toInt64), R, G)) := by
        rw [w2]
        exact c2'
      have e1 : evm (d + 20) 147 [aR (11, 0, 0), aI (xs (i + 1)), aI (xs (i + 2)), aR (42, 0, 0)] (I, M, R, G) = some (.inl (some (aI 0)), (I1, setV M (42, 0, 0) 0 (aL (N r.1.length).toInt64), R, G)) := w147_v c1
      have e2 : evm (d + 20) 287 [aR (12, 0, 0), aI (xs (i + 1)), aI (xs (i + 2))] (I1, setV M (42, 0, 0) 0 (aL (N r.1.length).toInt64), R, G) = some (.inl (some (aI (N r.1.length))), ((thr I2 0), setV M (42, 0, 0) 0 (aL (N r.1.length).toInt64), R, G)) := c2
      exact ⟨((thr I2 0), setV M (42, 0, 0) 0 (aL (N r.1.length).toInt64), R, G), _, _, _, fin_v h f1.fa ((thr_fm.tr f2.fm).tr thr_fm) (hC.srch f1) (mr1.th.pf f2).th (ob_0 h), lc35 (S1 := (I1, setV M (42, 0, 0) 0 (aL (N r.1.length).toInt64), R, G)) hi hL hx hx e1 e2 (thr_e thr_at) (fun _ => out_v)⟩
    | none =>
      obtain ⟨I1, c1', f1⟩ := CR.movesToChange_no2 (d := d + 8) (M := M) (G := G) hR hC hW (by omega) hw' hq
      have mr1 : MR I1 B hs sn := mr_a hM f1.fa
      obtain ⟨I2, v, c2', f2⟩ := movesToChangeM_no4 (d := d + 8) (M := M) (G := bG G) hR mr1.1.mv (by omega) hw' hq
      have c1 : evm (d + 19) 148 [aR (11, 0, 0), aI (xs (i + 1)), aI (xs (i + 2))] (I, M, R, G) = Ex 2 (I1, M, R, G) := by
        rw [w2]
        exact c1'
      have c2 : evm (d + 20) 287 [aR (12, 0, 0), aI (xs (i + 1)), aI (xs (i + 2))] (I1, M, R, bG G) = some (.inl (some (aI (v))), ((thr I2 4), M, R, bG G)) := by
        rw [w2]
        exact c2'
      have e1 : evm (d + 20) 147 [aR (11, 0, 0), aI (xs (i + 1)), aI (xs (i + 2)), aR (42, 0, 0)] (I, M, R, G) = some (.inl (some (aI 4)), (I1, M, R, bG G)) := w147_x2 c1
      have e2 : evm (d + 20) 287 [aR (12, 0, 0), aI (xs (i + 1)), aI (xs (i + 2))] (I1, M, R, bG G) = some (.inl (some (aI v)), ((thr I2 4), M, R, bG G)) := c2
      exact ⟨((thr I2 4), M, R, bG G), _, _, _, fin_x h f1.fa ((thr_fm.tr f2.fm).tr thr_fm) (hC.srch f1) (mr1.th.pf f2).th (ob_0 h), lc35 (S1 := (I1, M, R, bG G)) hi hL hx hx e1 e2 (thr_e thr_at) (fun q => absurd q (by decide))⟩
  · by_cases hf : fid B.1 (xs (i + 1)) < vn B.1
    · by_cases hr : rg (xs (i + 2)) 0 7
      · obtain ⟨wT, wE⟩ := wc_3 hw hf hr
        have c1 : evm (d + 19) 148 [aR (11, 0, 0), aI (xs (i + 1)), aI (xs (i + 2))] (I, M, R, G) = Ex 1 (I, M, R, G) := by
          have h9 := CR.movesToChange_no (d := d + 8) (M := M) (G := G) hR hC hw
          rw [wE] at h9
          exact h9
        have c2 : evm (d + 20) 287 [aR (12, 0, 0), aI (xs (i + 1)), aI (xs (i + 2))] (I, M, R, bG G) = some (.inl (some (aI (0))), ((thr I 3), M, R, bG G)) := by
          have h9 := movesToChangeM_no (d := d + 8) (M := M) (G := bG G) hR hMV hw
          rw [wT] at h9
          exact h9
        have e1 : evm (d + 20) 147 [aR (11, 0, 0), aI (xs (i + 1)), aI (xs (i + 2)), aR (42, 0, 0)] (I, M, R, G) = some (.inl (some (aI 3)), (I, M, R, bG G)) := w147_x1 c1
        have e2 : evm (d + 20) 287 [aR (12, 0, 0), aI (xs (i + 1)), aI (xs (i + 2))] (I, M, R, bG G) = some (.inl (some (aI 0)), ((thr I 3), M, R, bG G)) := c2
        exact ⟨((thr I 3), M, R, bG G), _, _, _, rd_x h, lc35 (S1 := (I, M, R, bG G)) hi hL hx hx e1 e2 (thr_e thr_at) (fun q => absurd q (by decide))⟩
      · obtain ⟨wT, wE⟩ := wc_2 (c := (xs (i + 2))) hf hr
        have c1 : evm (d + 19) 148 [aR (11, 0, 0), aI (xs (i + 1)), aI (xs (i + 2))] (I, M, R, G) = Ex 0 (I, M, R, G) := by
          have h9 := CR.movesToChange_no (d := d + 8) (M := M) (G := G) hR hC hw
          rw [wE] at h9
          exact h9
        have c2 : evm (d + 20) 287 [aR (12, 0, 0), aI (xs (i + 1)), aI (xs (i + 2))] (I, M, R, bG G) = some (.inl (some (aI (0))), ((thr I 2), M, R, bG G)) := by
          have h9 := movesToChangeM_no (d := d + 8) (M := M) (G := bG G) hR hMV hw
          rw [wT] at h9
          exact h9
        have e1 : evm (d + 20) 147 [aR (11, 0, 0), aI (xs (i + 1)), aI (xs (i + 2)), aR (42, 0, 0)] (I, M, R, G) = some (.inl (some (aI 2)), (I, M, R, bG G)) := w147_x0 c1
        have e2 : evm (d + 20) 287 [aR (12, 0, 0), aI (xs (i + 1)), aI (xs (i + 2))] (I, M, R, bG G) = some (.inl (some (aI 0)), ((thr I 2), M, R, bG G)) := c2
        exact ⟨((thr I 2), M, R, bG G), _, _, _, rd_x h, lc35 (S1 := (I, M, R, bG G)) hi hL hx hx e1 e2 (thr_e thr_at) (fun q => absurd q (by decide))⟩
    · obtain ⟨wT, wE⟩ := wc_1 (c := (xs (i + 2))) hf
      have c1 : evm (d + 19) 148 [aR (11, 0, 0), aI (xs (i + 1)), aI (xs (i + 2))] (I, M, R, G) = Ex 3 (I, M, R, G) := by
        have h9 := CR.movesToChange_no (d := d + 8) (M := M) (G := G) hR hC hw
        rw [wE] at h9
        exact h9
      have c2 : evm (d + 20) 287 [aR (12, 0, 0), aI (xs (i + 1)), aI (xs (i + 2))] (I, M, R, bG G) = some (.inl (some (aI (0))), ((thr I 1), M, R, bG G)) := by
        have h9 := movesToChangeM_no (d := d + 8) (M := M) (G := bG G) hR hMV hw
        rw [wT] at h9
        exact h9
      have e1 : evm (d + 20) 147 [aR (11, 0, 0), aI (xs (i + 1)), aI (xs (i + 2)), aR (42, 0, 0)] (I, M, R, G) = some (.inl (some (aI 1)), (I, M, R, bG G)) := w147_x3 c1
      have e2 : evm (d + 20) 287 [aR (12, 0, 0), aI (xs (i + 1)), aI (xs (i + 2))] (I, M, R, bG G) = some (.inl (some (aI 0)), ((thr I 1), M, R, bG G)) := c2
      exact ⟨((thr I 1), M, R, bG G), _, _, _, rd_x h, lc35 (S1 := (I, M, R, bG G)) hi hL hx hx e1 e2 (thr_e thr_at) (fun q => absurd q (by decide))⟩
theorem call36 (h : lawI t xs (I, M, R, G) B hs sn) (hi : i + 4 ≤ L) (hL : L ≤ 2048) (ht : t < 1000) : goC d L i 2131 t xs (I, M, R, G) := by
  have hR : RF R := h.1.1
  have hC : CR I B hs sn := h.1.2.1
  have hM : MR I B hs sn := h.1.2.2
  have hB : BA I 0 B := hC.1
  have hV : BV I 0 B.1 := hB.1
  have hMV : MV I B.1 := hM.1.mv
  have hO : OB t B := h.2.1.1
  have hW : WV B.1 := hO.1
  have hx : xsS (I, M, R, G) = xs := h.2.2.2.2.2.2
  by_cases hw : wcT B.1 (xs (i + 1)) (xs (i + 2)) = 0
  · obtain ⟨w, w1, w2⟩ := rg_N (b := 7) (by decide) (wcT_0 hw).2.1
    have hw' := hw
    rw [w2] at hw'
    cases hq : planF (qsl B.1 (fid B.1 (xs (i + 1))) (some w) none) B.1 with
    | some r =>
      obtain ⟨I1, c1', f1⟩ := CR.changeByQueue (d := d + 11) (M := M) (G := G) hR hC hW (by omega) hw' hq
      have mr1 : MR I1 B hs sn := mr_a hM f1.fa
      obtain ⟨I2, c2', f2⟩ := movesToChangeM_ok (d := d + 7) (M := setV M (42, 0, 0) 0 (aL (N r.1.length).toInt64)) (G := G) hR mr1.1.mv (by omega) hw' hq
      have c1 : evm (d + 19) 153 [aR (11, 0, 0), aI (xs (i + 1)), aI (xs (i + 2))] (I, M, R, G) = some (.inl (some (aI (N r.1.length))), (I1, M, R, G)) := by
        rw [w2]
        exact c1'
      have c2 : evm (d + 20) 290 [aR (12, 0, 0), aI (xs (i + 1)), aI (xs (i + 2))] (I1, setV M (42, 0, 0) 0 (aL (N r.1.length).toInt64), R, G) = some (.inl (some (aI (N r.1.length))), ((thr I2 0), setV M (42, 0, 0) 0 (aL (N r.1.length).toInt64), R, G)) := by
        rw [w2]
        exact changeQM_ok (d := d + 7) (c2')
      have e1 : evm (d + 20) 152 [aR (11, 0, 0), aI (xs (i + 1)), aI (xs (i + 2)), aR (42, 0, 0)] (I, M, R, G) = some (.inl (some (aI 0)), (I1, setV M (42, 0, 0) 0 (aL (N r.1.length).toInt64), R, G)) := w152_v c1
      have e2 : evm (d + 20) 290 [aR (12, 0, 0), aI (xs (i + 1)), aI (xs (i + 2))] (I1, setV M (42, 0, 0) 0 (aL (N r.1.length).toInt64), R, G) = some (.inl (some (aI (N r.1.length))), ((thr I2 0), setV M (42, 0, 0) 0 (aL (N r.1.length).toInt64), R, G)) := c2
      exact ⟨((thr I2 0), setV M (42, 0, 0) 0 (aL (N r.1.length).toInt64), R, G), _, _, _, fin_v h f1.fa ((thr_fm.tr f2.fm).tr thr_fm) (hC.srch f1) (mr1.th.pf f2).th (ob_0 h), lc36 (S1 := (I1, setV M (42, 0, 0) 0 (aL (N r.1.length).toInt64), R, G)) hi hL hx hx e1 e2 (thr_e thr_at) (fun _ => out_v)⟩
    | none =>
      obtain ⟨I1, c1', f1⟩ := CR.changeByQueue_no2 (d := d + 11) (M := M) (G := G) hR hC hW (by omega) hw' hq
      have mr1 : MR I1 B hs sn := mr_a hM f1.fa
      obtain ⟨I2, v, c2', f2⟩ := movesToChangeM_no4 (d := d + 7) (M := M) (G := bG G) hR mr1.1.mv (by omega) hw' hq
      have c1 : evm (d + 19) 153 [aR (11, 0, 0), aI (xs (i + 1)), aI (xs (i + 2))] (I, M, R, G) = Ex 2 (I1, M, R, G) := by
        rw [w2]
        exact c1'
      have c2 : evm (d + 20) 290 [aR (12, 0, 0), aI (xs (i + 1)), aI (xs (i + 2))] (I1, M, R, bG G) = some (.inl (some (aI (v))), ((thr I2 4), M, R, bG G)) := by
        rw [w2]
        exact changeQM_ok (d := d + 7) (c2')
      have e1 : evm (d + 20) 152 [aR (11, 0, 0), aI (xs (i + 1)), aI (xs (i + 2)), aR (42, 0, 0)] (I, M, R, G) = some (.inl (some (aI 4)), (I1, M, R, bG G)) := w152_x2 c1
      have e2 : evm (d + 20) 290 [aR (12, 0, 0), aI (xs (i + 1)), aI (xs (i + 2))] (I1, M, R, bG G) = some (.inl (some (aI v)), ((thr I2 4), M, R, bG G)) := c2
      exact ⟨((thr I2 4), M, R, bG G), _, _, _, fin_x h f1.fa ((thr_fm.tr f2.fm).tr thr_fm) (hC.srch f1) (mr1.th.pf f2).th (ob_0 h), lc36 (S1 := (I1, M, R, bG G)) hi hL hx hx e1 e2 (thr_e thr_at) (fun q => absurd q (by decide))⟩
  · by_cases hf : fid B.1 (xs (i + 1)) < vn B.1
    · by_cases hr : rg (xs (i + 2)) 0 7
      · obtain ⟨wT, wE⟩ := wc_3 hw hf hr
        have c1 : evm (d + 19) 153 [aR (11, 0, 0), aI (xs (i + 1)), aI (xs (i + 2))] (I, M, R, G) = Ex 1 (I, M, R, G) := by
          have h9 := CR.changeByQueue_no (d := d + 11) (M := M) (G := G) hR hC hw
          rw [wE] at h9
          exact h9
        have c2 : evm (d + 20) 290 [aR (12, 0, 0), aI (xs (i + 1)), aI (xs (i + 2))] (I, M, R, bG G) = some (.inl (some (aI (0))), ((thr I 3), M, R, bG G)) := by
          have h9 := changeQM_ok (d := d + 7) (movesToChangeM_no (d := d + 7) (M := M) (G := bG G) hR hMV hw)
          rw [wT] at h9
          exact h9
        have e1 : evm (d + 20) 152 [aR (11, 0, 0), aI (xs (i + 1)), aI (xs (i + 2)), aR (42, 0, 0)] (I, M, R, G) = some (.inl (some (aI 3)), (I, M, R, bG G)) := w152_x1 c1
        have e2 : evm (d + 20) 290 [aR (12, 0, 0), aI (xs (i + 1)), aI (xs (i + 2))] (I, M, R, bG G) = some (.inl (some (aI 0)), ((thr I 3), M, R, bG G)) := c2
        exact ⟨((thr I 3), M, R, bG G), _, _, _, rd_x h, lc36 (S1 := (I, M, R, bG G)) hi hL hx hx e1 e2 (thr_e thr_at) (fun q => absurd q (by decide))⟩
      · obtain ⟨wT, wE⟩ := wc_2 (c := (xs (i + 2))) hf hr
        have c1 : evm (d + 19) 153 [aR (11, 0, 0), aI (xs (i + 1)), aI (xs (i + 2))] (I, M, R, G) = Ex 0 (I, M, R, G) := by
          have h9 := CR.changeByQueue_no (d := d + 11) (M := M) (G := G) hR hC hw
          rw [wE] at h9
          exact h9
        have c2 : evm (d + 20) 290 [aR (12, 0, 0), aI (xs (i + 1)), aI (xs (i + 2))] (I, M, R, bG G) = some (.inl (some (aI (0))), ((thr I 2), M, R, bG G)) := by
          have h9 := changeQM_ok (d := d + 7) (movesToChangeM_no (d := d + 7) (M := M) (G := bG G) hR hMV hw)
          rw [wT] at h9
          exact h9
        have e1 : evm (d + 20) 152 [aR (11, 0, 0), aI (xs (i + 1)), aI (xs (i + 2)), aR (42, 0, 0)] (I, M, R, G) = some (.inl (some (aI 2)), (I, M, R, bG G)) := w152_x0 c1
        have e2 : evm (d + 20) 290 [aR (12, 0, 0), aI (xs (i + 1)), aI (xs (i + 2))] (I, M, R, bG G) = some (.inl (some (aI 0)), ((thr I 2), M, R, bG G)) := c2
        exact ⟨((thr I 2), M, R, bG G), _, _, _, rd_x h, lc36 (S1 := (I, M, R, bG G)) hi hL hx hx e1 e2 (thr_e thr_at) (fun q => absurd q (by decide))⟩
    · obtain ⟨wT, wE⟩ := wc_1 (c := (xs (i + 2))) hf
      have c1 : evm (d + 19) 153 [aR (11, 0, 0), aI (xs (i + 1)), aI (xs (i + 2))] (I, M, R, G) = Ex 3 (I, M, R, G) := by
        have h9 := CR.changeByQueue_no (d := d + 11) (M := M) (G := G) hR hC hw
        rw [wE] at h9
        exact h9
      have c2 : evm (d + 20) 290 [aR (12, 0, 0), aI (xs (i + 1)), aI (xs (i + 2))] (I, M, R, bG G) = some (.inl (some (aI (0))), ((thr I 1), M, R, bG G)) := by
        have h9 := changeQM_ok (d := d + 7) (movesToChangeM_no (d := d + 7) (M := M) (G := bG G) hR hMV hw)
        rw [wT] at h9
        exact h9
      have e1 : evm (d + 20) 152 [aR (11, 0, 0), aI (xs (i + 1)), aI (xs (i + 2)), aR (42, 0, 0)] (I, M, R, G) = some (.inl (some (aI 1)), (I, M, R, bG G)) := w152_x3 c1
      have e2 : evm (d + 20) 290 [aR (12, 0, 0), aI (xs (i + 1)), aI (xs (i + 2))] (I, M, R, bG G) = some (.inl (some (aI 0)), ((thr I 1), M, R, bG G)) := c2
      exact ⟨((thr I 1), M, R, bG G), _, _, _, rd_x h, lc36 (S1 := (I, M, R, bG G)) hi hL hx hx e1 e2 (thr_e thr_at) (fun q => absurd q (by decide))⟩
end CALLS
