/-! THE METHODS' MEANING: the law's calls, plain questions (genC.py) -/
theorem out_v {I : OId → Nat → Int32} {M R : OId → Nat → AV} {G : SG} {v : AV} : ((I, setV M (42, 0, 0) 0 v, R, G) : SS).2.1 (42, 0, 0) 0 = v := by
  show setV M (42, 0, 0) 0 v (42, 0, 0) 0 = v
  exact setV_y
theorem out_d {I : OId → Nat → Int32} {M R : OId → Nat → AV} {G : SG} {v : AV} : ((I, setV M (43, 0, 0) 0 v, R, G) : SS).2.1 (43, 0, 0) 0 = v := by
  show setV M (43, 0, 0) 0 v (43, 0, 0) 0 = v
  exact setV_y
section CALLS
variable {d i L t : Nat} {xs : Nat → Int32} {I : OId → Nat → Int32} {M R : OId → Nat → AV} {G : SG} {B : Bk} {hs : List Bk} {sn : Option Bk}
theorem call1 (h : lawI t xs (I, M, R, G) B hs sn) (hi : i + 4 ≤ L) (hL : L ≤ 2048) (ht : t < 1000) : goC d L i 344 t xs (I, M, R, G) := by
  have hR : RF R := h.1.1
  have hC : CR I B hs sn := h.1.2.1
  have hM : MR I B hs sn := h.1.2.2
  have hB : BA I 0 B := hC.1
  have hV : BV I 0 B.1 := hB.1
  have hMV : MV I B.1 := hM.1.mv
  have hO : OB t B := h.2.1.1
  have hW : WV B.1 := hO.1
  have hx : xsS (I, M, R, G) = xs := h.2.2.2.2.2.2
  have e1 : evm (d + 20) 10 [aR (11, 0, 0)] (I, M, R, G) = some (.inl (some (aI (B.1.1.1))), (I, M, R, G)) := nearRadius_ok (d := d + 19) hR hV
  have e2 : evm (d + 20) 219 [aR (12, 0, 0)] (I, M, R, G) = some (.inl (some (aI (B.1.1.1))), (thr I 0, M, R, G)) := by
    have h9 := nearRadiusM_ok (d := d + 18) (I := I) (M := M) (G := G) hR
    rw [show I (35, 0, 0) 0 = _ from hM.1.1.1] at h9
    exact h9
  exact ⟨_, _, _, _, rd_p h, lc1 e1 e2⟩
theorem call2 (h : lawI t xs (I, M, R, G) B hs sn) (hi : i + 4 ≤ L) (hL : L ≤ 2048) (ht : t < 1000) : goC d L i 357 t xs (I, M, R, G) := by
  have hR : RF R := h.1.1
  have hC : CR I B hs sn := h.1.2.1
  have hM : MR I B hs sn := h.1.2.2
  have hB : BA I 0 B := hC.1
  have hV : BV I 0 B.1 := hB.1
  have hMV : MV I B.1 := hM.1.mv
  have hO : OB t B := h.2.1.1
  have hW : WV B.1 := hO.1
  have hx : xsS (I, M, R, G) = xs := h.2.2.2.2.2.2
  have e1 : evm (d + 20) 11 [aR (11, 0, 0)] (I, M, R, G) = some (.inl (some (aI (B.1.1.2.1))), (I, M, R, G)) := middleRadius_ok (d := d + 19) hR hV
  have e2 : evm (d + 20) 221 [aR (12, 0, 0)] (I, M, R, G) = some (.inl (some (aI (B.1.1.2.1))), (thr I 0, M, R, G)) := by
    have h9 := middleRadiusM_ok (d := d + 18) (I := I) (M := M) (G := G) hR
    rw [show I (35, 0, 0) 1 = _ from hM.1.1.2.1] at h9
    exact h9
  exact ⟨_, _, _, _, rd_p h, lc2 e1 e2⟩
theorem call3 (h : lawI t xs (I, M, R, G) B hs sn) (hi : i + 4 ≤ L) (hL : L ≤ 2048) (ht : t < 1000) : goC d L i 370 t xs (I, M, R, G) := by
  have hR : RF R := h.1.1
  have hC : CR I B hs sn := h.1.2.1
  have hM : MR I B hs sn := h.1.2.2
  have hB : BA I 0 B := hC.1
  have hV : BV I 0 B.1 := hB.1
  have hMV : MV I B.1 := hM.1.mv
  have hO : OB t B := h.2.1.1
  have hW : WV B.1 := hO.1
  have hx : xsS (I, M, R, G) = xs := h.2.2.2.2.2.2
  have e1 : evm (d + 20) 12 [aR (11, 0, 0)] (I, M, R, G) = some (.inl (some (aI (B.1.1.2.2))), (I, M, R, G)) := farRadius_ok (d := d + 19) hR hV
  have e2 : evm (d + 20) 222 [aR (12, 0, 0)] (I, M, R, G) = some (.inl (some (aI (B.1.1.2.2))), (thr I 0, M, R, G)) := by
    have h9 := farRadiusM_ok (d := d + 18) (I := I) (M := M) (G := G) hR
    rw [show I (35, 0, 0) 2 = _ from hM.1.1.2.2] at h9
    exact h9
  exact ⟨_, _, _, _, rd_p h, lc3 e1 e2⟩
theorem call10 (h : lawI t xs (I, M, R, G) B hs sn) (hi : i + 4 ≤ L) (hL : L ≤ 2048) (ht : t < 1000) : goC d L i 791 t xs (I, M, R, G) := by
  have hR : RF R := h.1.1
  have hC : CR I B hs sn := h.1.2.1
  have hM : MR I B hs sn := h.1.2.2
  have hB : BA I 0 B := hC.1
  have hV : BV I 0 B.1 := hB.1
  have hMV : MV I B.1 := hM.1.mv
  have hO : OB t B := h.2.1.1
  have hW : WV B.1 := hO.1
  have hx : xsS (I, M, R, G) = xs := h.2.2.2.2.2.2
  have e1 : evm (d + 20) 13 [aR (11, 0, 0)] (I, M, R, G) = some (.inl (some (aI (bday B))), (I, M, R, G)) := by
    have h9 := today_ok (d := d + 19) (I := I) (M := M) (G := G) hR
    rw [show I (4, 0, 0) 3 = _ from hB.2.1] at h9
    exact h9
  have e2 : evm (d + 20) 258 [aR (12, 0, 0)] (I, M, R, G) = some (.inl (some (aI (bday B))), (thr I 0, M, R, G)) := by
    have h9 := todayM_ok (d := d + 18) (I := I) (M := M) (G := G) hR
    rw [show I (35, 0, 0) 3 = _ from hM.1.2.1.1] at h9
    exact h9
  exact ⟨_, _, _, _, rd_p h, lc10 e1 e2⟩
theorem call11 (h : lawI t xs (I, M, R, G) B hs sn) (hi : i + 4 ≤ L) (hL : L ≤ 2048) (ht : t < 1000) : goC d L i 804 t xs (I, M, R, G) := by
  have hR : RF R := h.1.1
  have hC : CR I B hs sn := h.1.2.1
  have hM : MR I B hs sn := h.1.2.2
  have hB : BA I 0 B := hC.1
  have hV : BV I 0 B.1 := hB.1
  have hMV : MV I B.1 := hM.1.mv
  have hO : OB t B := h.2.1.1
  have hW : WV B.1 := hO.1
  have hx : xsS (I, M, R, G) = xs := h.2.2.2.2.2.2
  have e1 : evm (d + 20) 14 [aR (11, 0, 0)] (I, M, R, G) = some (.inl (some (aI (N (vn B.1)))), (I, M, R, G)) := stationCount_ok (d := d + 19) hR hV
  have e2 : evm (d + 20) 259 [aR (12, 0, 0)] (I, M, R, G) = some (.inl (some (aI (N (vn B.1)))), (thr I 0, M, R, G)) := by
    have h9 := stationCountM_ok (d := d + 18) (I := I) (M := M) (G := G) hR
    rw [show I (35, 0, 0) 7 = _ from hM.1.2.2.1] at h9
    exact h9
  exact ⟨_, _, _, _, rd_p h, lc11 e1 e2⟩
theorem call12 (h : lawI t xs (I, M, R, G) B hs sn) (hi : i + 4 ≤ L) (hL : L ≤ 2048) (ht : t < 1000) : goC d L i 817 t xs (I, M, R, G) := by
  have hR : RF R := h.1.1
  have hC : CR I B hs sn := h.1.2.1
  have hM : MR I B hs sn := h.1.2.2
  have hB : BA I 0 B := hC.1
  have hV : BV I 0 B.1 := hB.1
  have hMV : MV I B.1 := hM.1.mv
  have hO : OB t B := h.2.1.1
  have hW : WV B.1 := hO.1
  have hx : xsS (I, M, R, G) = xs := h.2.2.2.2.2.2
  have e1 : evm (d + 20) 15 [aR (11, 0, 0)] (I, M, R, G) = some (.inl (some (aI (sm (licv B.1) (vn B.1)))), (I, M, R, G)) := licensedCount_ok (d := d + 17) hR hV
  have e2 : evm (d + 20) 260 [aR (12, 0, 0)] (I, M, R, G) = some (.inl (some (aI (sm (licv B.1) (vn B.1)))), (thr I 0, M, R, G)) := licensedCountM_ok (d := d + 17) hR hMV
  exact ⟨_, _, _, _, rd_p h, lc12 e1 e2⟩
theorem call13 (h : lawI t xs (I, M, R, G) B hs sn) (hi : i + 4 ≤ L) (hL : L ≤ 2048) (ht : t < 1000) : goC d L i 830 t xs (I, M, R, G) := by
  have hR : RF R := h.1.1
  have hC : CR I B hs sn := h.1.2.1
  have hM : MR I B hs sn := h.1.2.2
  have hB : BA I 0 B := hC.1
  have hV : BV I 0 B.1 := hB.1
  have hMV : MV I B.1 := hM.1.mv
  have hO : OB t B := h.2.1.1
  have hW : WV B.1 := hO.1
  have hx : xsS (I, M, R, G) = xs := h.2.2.2.2.2.2
  have e1 : evm (d + 20) 18 [aR (11, 0, 0), aI (xs (i + 1))] (I, M, R, G) = some (.inl (some (aI (if fid B.1 (xs (i + 1)) < vn B.1 then 1 else 0))), (I, M, R, G)) := exists_ok (d := d + 17) hR hV
  have e2 : evm (d + 20) 262 [aR (12, 0, 0), aI (xs (i + 1))] (I, M, R, G) = some (.inl (some (aI (if fid B.1 (xs (i + 1)) < vn B.1 then 1 else 0))), (thr I 0, M, R, G)) := existsM_ok (d := d + 17) hR hMV
  exact ⟨_, _, _, _, rd_p h, lc13 hi hL hx hx e1 e2⟩
theorem call21 (h : lawI t xs (I, M, R, G) B hs sn) (hi : i + 4 ≤ L) (hL : L ≤ 2048) (ht : t < 1000) : goC d L i 1254 t xs (I, M, R, G) := by
  have hR : RF R := h.1.1
  have hC : CR I B hs sn := h.1.2.1
  have hM : MR I B hs sn := h.1.2.2
  have hB : BA I 0 B := hC.1
  have hV : BV I 0 B.1 := hB.1
  have hMV : MV I B.1 := hM.1.mv
  have hO : OB t B := h.2.1.1
  have hW : WV B.1 := hO.1
  have hx : xsS (I, M, R, G) = xs := h.2.2.2.2.2.2
  have e1 : evm (d + 20) 20 [aR (11, 0, 0)] (I, M, R, G) = some (.inl (some (aI (bexp B))), (I, M, R, G)) := by
    have h9 := expiredTotal_ok (d := d + 19) (I := I) (M := M) (G := G) hR
    rw [show I (4, 0, 0) 5 = _ from hB.2.2.2.1] at h9
    exact h9
  have e2 : evm (d + 20) 272 [aR (12, 0, 0)] (I, M, R, G) = some (.inl (some (aI (bexp B))), (thr I 0, M, R, G)) := by
    have h9 := expiredTotalM_ok (d := d + 18) (I := I) (M := M) (G := G) hR
    rw [show I (35, 0, 0) 5 = _ from hM.1.2.1.2.2.1] at h9
    exact h9
  exact ⟨_, _, _, _, rd_p h, lc21 e1 e2⟩
theorem call22 (h : lawI t xs (I, M, R, G) B hs sn) (hi : i + 4 ≤ L) (hL : L ≤ 2048) (ht : t < 1000) : goC d L i 1267 t xs (I, M, R, G) := by
  have hR : RF R := h.1.1
  have hC : CR I B hs sn := h.1.2.1
  have hM : MR I B hs sn := h.1.2.2
  have hB : BA I 0 B := hC.1
  have hV : BV I 0 B.1 := hB.1
  have hMV : MV I B.1 := hM.1.mv
  have hO : OB t B := h.2.1.1
  have hW : WV B.1 := hO.1
  have hx : xsS (I, M, R, G) = xs := h.2.2.2.2.2.2
  have e1 : evm (d + 20) 21 [aR (11, 0, 0)] (I, M, R, G) = some (.inl (some (aI (bend B))), (I, M, R, G)) := by
    have h9 := endedTrials_ok (d := d + 19) (I := I) (M := M) (G := G) hR
    rw [show I (4, 0, 0) 6 = _ from hB.2.2.2.2.1] at h9
    exact h9
  have e2 : evm (d + 20) 273 [aR (12, 0, 0)] (I, M, R, G) = some (.inl (some (aI (bend B))), (thr I 0, M, R, G)) := by
    have h9 := endedTrialsM_ok (d := d + 18) (I := I) (M := M) (G := G) hR
    rw [show I (35, 0, 0) 6 = _ from hM.1.2.1.2.2.2] at h9
    exact h9
  exact ⟨_, _, _, _, rd_p h, lc22 e1 e2⟩
theorem call31 (h : lawI t xs (I, M, R, G) B hs sn) (hi : i + 4 ≤ L) (hL : L ≤ 2048) (ht : t < 1000) : goC d L i 1846 t xs (I, M, R, G) := by
  have hR : RF R := h.1.1
  have hC : CR I B hs sn := h.1.2.1
  have hM : MR I B hs sn := h.1.2.2
  have hB : BA I 0 B := hC.1
  have hV : BV I 0 B.1 := hB.1
  have hMV : MV I B.1 := hM.1.mv
  have hO : OB t B := h.2.1.1
  have hW : WV B.1 := hO.1
  have hx : xsS (I, M, R, G) = xs := h.2.2.2.2.2.2
  have e1 : evm (d + 20) 22 [aR (11, 0, 0)] (I, M, R, G) = some (.inl (some (aI (if fs (bad B.1 (bday B)) (vn B.1) < vn B.1 then 0 else 1))), (I, M, R, G)) := isConsistent_ok (d := d + 14) hR hV hW hB.2.1
  have e2 : evm (d + 20) 283 [aR (12, 0, 0)] (I, M, R, G) = some (.inl (some (aI (if fs (bad B.1 (bday B)) (vn B.1) < vn B.1 then 0 else 1))), (thr I 0, M, R, G)) := isConsistentM_ok (d := d + 13) hR hMV hW hM.1.2.1.1
  exact ⟨_, _, _, _, rd_p h, lc31 e1 e2⟩
theorem call45 (h : lawI t xs (I, M, R, G) B hs sn) (hi : i + 4 ≤ L) (hL : L ≤ 2048) (ht : t < 1000) : goC d L i 2573 t xs (I, M, R, G) := by
  have hR : RF R := h.1.1
  have hC : CR I B hs sn := h.1.2.1
  have hM : MR I B hs sn := h.1.2.2
  have hB : BA I 0 B := hC.1
  have hV : BV I 0 B.1 := hB.1
  have hMV : MV I B.1 := hM.1.mv
  have hO : OB t B := h.2.1.1
  have hW : WV B.1 := hO.1
  have hx : xsS (I, M, R, G) = xs := h.2.2.2.2.2.2
  have e1 : evm (d + 20) 51 [aR (11, 0, 0)] (I, M, R, G) = some (.inl (some (aI (usd B.1))), (I, M, R, G)) := usedSpan_ok (d := d + 18) hR hV hW
  have e2 : evm (d + 20) 302 [aR (12, 0, 0)] (I, M, R, G) = some (.inl (some (aI (usd B.1))), (thr I 0, M, R, G)) := usedSpanM_ok (d := d + 17) hR hMV
  exact ⟨_, _, _, _, rd_p h, lc45 e1 e2⟩
theorem call16 (h : lawI t xs (I, M, R, G) B hs sn) (hi : i + 4 ≤ L) (hL : L ≤ 2048) (ht : t < 1000) : goC d L i 967 t xs (I, M, R, G) := by
  have hR : RF R := h.1.1
  have hC : CR I B hs sn := h.1.2.1
  have hM : MR I B hs sn := h.1.2.2
  have hB : BA I 0 B := hC.1
  have hV : BV I 0 B.1 := hB.1
  have hMV : MV I B.1 := hM.1.mv
  have hO : OB t B := h.2.1.1
  have hW : WV B.1 := hO.1
  have hx : xsS (I, M, R, G) = xs := h.2.2.2.2.2.2
  by_cases hf : fid B.1 (xs (i + 1)) < vn B.1
  · have c1 : evm (d + 19) 107 [aR (11, 0, 0), aI (xs (i + 1))] (I, M, R, G) = some (.inl (some (aI (vf B.1 (fid B.1 (xs (i + 1))) 1))), (I, M, R, G)) := by
      have h9 := xOf_ok (d := d + 15) (M := M) (G := G) (id := (xs (i + 1))) hR hV
      rw [if_pos hf] at h9
      exact h9
    have c2 : evm (d + 20) 266 [aR (12, 0, 0), aI (xs (i + 1))] (I, setV M (42, 0, 0) 0 (aL (vf B.1 (fid B.1 (xs (i + 1))) 1).toInt64), R, G) = some (.inl (some (aI (vf B.1 (fid B.1 (xs (i + 1))) 1))), ((thr I 0), setV M (42, 0, 0) 0 (aL (vf B.1 (fid B.1 (xs (i + 1))) 1).toInt64), R, G)) := by
      have h9 := xOfM_ok (d := d + 16) (M := setV M (42, 0, 0) 0 (aL (vf B.1 (fid B.1 (xs (i + 1))) 1).toInt64)) (G := G) (id := (xs (i + 1))) hR hMV
      simp only [if_pos hf] at h9
      exact h9
    have e1 : evm (d + 20) 106 [aR (11, 0, 0), aI (xs (i + 1)), aR (42, 0, 0)] (I, M, R, G) = some (.inl (some (aI 0)), (I, setV M (42, 0, 0) 0 (aL (vf B.1 (fid B.1 (xs (i + 1))) 1).toInt64), R, G)) := w106_v c1
    have e2 : evm (d + 20) 266 [aR (12, 0, 0), aI (xs (i + 1))] (I, setV M (42, 0, 0) 0 (aL (vf B.1 (fid B.1 (xs (i + 1))) 1).toInt64), R, G) = some (.inl (some (aI (vf B.1 (fid B.1 (xs (i + 1))) 1))), ((thr I 0), setV M (42, 0, 0) 0 (aL (vf B.1 (fid B.1 (xs (i + 1))) 1).toInt64), R, G)) := c2
    exact ⟨((thr I 0), setV M (42, 0, 0) 0 (aL (vf B.1 (fid B.1 (xs (i + 1))) 1).toInt64), R, G), _, _, _, rd_v h, lc16 (S1 := (I, setV M (42, 0, 0) 0 (aL (vf B.1 (fid B.1 (xs (i + 1))) 1).toInt64), R, G)) hi hL hx hx e1 e2 (thr_e thr_at) (fun _ => out_v)⟩
  · have c1 : evm (d + 19) 107 [aR (11, 0, 0), aI (xs (i + 1))] (I, M, R, G) = Ex 3 (I, M, R, G) := by
      have h9 := xOf_ok (d := d + 15) (M := M) (G := G) (id := (xs (i + 1))) hR hV
      rw [if_neg hf] at h9
      exact h9
    have c2 : evm (d + 20) 266 [aR (12, 0, 0), aI (xs (i + 1))] (I, M, R, bG G) = some (.inl (some (aI (0))), ((thr I 1), M, R, bG G)) := by
      have h9 := xOfM_ok (d := d + 16) (M := M) (G := bG G) (id := (xs (i + 1))) hR hMV
      simp only [if_neg hf] at h9
      exact h9
    have e1 : evm (d + 20) 106 [aR (11, 0, 0), aI (xs (i + 1)), aR (42, 0, 0)] (I, M, R, G) = some (.inl (some (aI 1)), (I, M, R, bG G)) := w106_x3 c1
    have e2 : evm (d + 20) 266 [aR (12, 0, 0), aI (xs (i + 1))] (I, M, R, bG G) = some (.inl (some (aI 0)), ((thr I 1), M, R, bG G)) := c2
    exact ⟨((thr I 1), M, R, bG G), _, _, _, rd_x h, lc16 (S1 := (I, M, R, bG G)) hi hL hx hx e1 e2 (thr_e thr_at) (fun q => absurd q (by decide))⟩
theorem call17 (h : lawI t xs (I, M, R, G) B hs sn) (hi : i + 4 ≤ L) (hL : L ≤ 2048) (ht : t < 1000) : goC d L i 1023 t xs (I, M, R, G) := by
  have hR : RF R := h.1.1
  have hC : CR I B hs sn := h.1.2.1
  have hM : MR I B hs sn := h.1.2.2
  have hB : BA I 0 B := hC.1
  have hV : BV I 0 B.1 := hB.1
  have hMV : MV I B.1 := hM.1.mv
  have hO : OB t B := h.2.1.1
  have hW : WV B.1 := hO.1
  have hx : xsS (I, M, R, G) = xs := h.2.2.2.2.2.2
  by_cases hf : fid B.1 (xs (i + 1)) < vn B.1
  · have c1 : evm (d + 19) 109 [aR (11, 0, 0), aI (xs (i + 1))] (I, M, R, G) = some (.inl (some (aI (vf B.1 (fid B.1 (xs (i + 1))) 2))), (I, M, R, G)) := by
      have h9 := yOf_ok (d := d + 15) (M := M) (G := G) (id := (xs (i + 1))) hR hV
      rw [if_pos hf] at h9
      exact h9
    have c2 : evm (d + 20) 268 [aR (12, 0, 0), aI (xs (i + 1))] (I, setV M (42, 0, 0) 0 (aL (vf B.1 (fid B.1 (xs (i + 1))) 2).toInt64), R, G) = some (.inl (some (aI (vf B.1 (fid B.1 (xs (i + 1))) 2))), ((thr I 0), setV M (42, 0, 0) 0 (aL (vf B.1 (fid B.1 (xs (i + 1))) 2).toInt64), R, G)) := by
      have h9 := yOfM_ok (d := d + 16) (M := setV M (42, 0, 0) 0 (aL (vf B.1 (fid B.1 (xs (i + 1))) 2).toInt64)) (G := G) (id := (xs (i + 1))) hR hMV
      simp only [if_pos hf] at h9
      exact h9
    have e1 : evm (d + 20) 108 [aR (11, 0, 0), aI (xs (i + 1)), aR (42, 0, 0)] (I, M, R, G) = some (.inl (some (aI 0)), (I, setV M (42, 0, 0) 0 (aL (vf B.1 (fid B.1 (xs (i + 1))) 2).toInt64), R, G)) := w108_v c1
    have e2 : evm (d + 20) 268 [aR (12, 0, 0), aI (xs (i + 1))] (I, setV M (42, 0, 0) 0 (aL (vf B.1 (fid B.1 (xs (i + 1))) 2).toInt64), R, G) = some (.inl (some (aI (vf B.1 (fid B.1 (xs (i + 1))) 2))), ((thr I 0), setV M (42, 0, 0) 0 (aL (vf B.1 (fid B.1 (xs (i + 1))) 2).toInt64), R, G)) := c2
    exact ⟨((thr I 0), setV M (42, 0, 0) 0 (aL (vf B.1 (fid B.1 (xs (i + 1))) 2).toInt64), R, G), _, _, _, rd_v h, lc17 (S1 := (I, setV M (42, 0, 0) 0 (aL (vf B.1 (fid B.1 (xs (i + 1))) 2).toInt64), R, G)) hi hL hx hx e1 e2 (thr_e thr_at) (fun _ => out_v)⟩
  · have c1 : evm (d + 19) 109 [aR (11, 0, 0), aI (xs (i + 1))] (I, M, R, G) = Ex 3 (I, M, R, G) := by
      have h9 := yOf_ok (d := d + 15) (M := M) (G := G) (id := (xs (i + 1))) hR hV
      rw [if_neg hf] at h9
      exact h9
    have c2 : evm (d + 20) 268 [aR (12, 0, 0), aI (xs (i + 1))] (I, M, R, bG G) = some (.inl (some (aI (0))), ((thr I 1), M, R, bG G)) := by
      have h9 := yOfM_ok (d := d + 16) (M := M) (G := bG G) (id := (xs (i + 1))) hR hMV
      simp only [if_neg hf] at h9
      exact h9
    have e1 : evm (d + 20) 108 [aR (11, 0, 0), aI (xs (i + 1)), aR (42, 0, 0)] (I, M, R, G) = some (.inl (some (aI 1)), (I, M, R, bG G)) := w108_x3 c1
    have e2 : evm (d + 20) 268 [aR (12, 0, 0), aI (xs (i + 1))] (I, M, R, bG G) = some (.inl (some (aI 0)), ((thr I 1), M, R, bG G)) := c2
    exact ⟨((thr I 1), M, R, bG G), _, _, _, rd_x h, lc17 (S1 := (I, M, R, bG G)) hi hL hx hx e1 e2 (thr_e thr_at) (fun q => absurd q (by decide))⟩
theorem call18 (h : lawI t xs (I, M, R, G) B hs sn) (hi : i + 4 ≤ L) (hL : L ≤ 2048) (ht : t < 1000) : goC d L i 1079 t xs (I, M, R, G) := by
  have hR : RF R := h.1.1
  have hC : CR I B hs sn := h.1.2.1
  have hM : MR I B hs sn := h.1.2.2
  have hB : BA I 0 B := hC.1
  have hV : BV I 0 B.1 := hB.1
  have hMV : MV I B.1 := hM.1.mv
  have hO : OB t B := h.2.1.1
  have hW : WV B.1 := hO.1
  have hx : xsS (I, M, R, G) = xs := h.2.2.2.2.2.2
  by_cases hf : fid B.1 (xs (i + 1)) < vn B.1
  · have c1 : evm (d + 19) 111 [aR (11, 0, 0), aI (xs (i + 1))] (I, M, R, G) = some (.inl (some (aI (vf B.1 (fid B.1 (xs (i + 1))) 3))), (I, M, R, G)) := by
      have h9 := channelOf_ok (d := d + 15) (M := M) (G := G) (id := (xs (i + 1))) hR hV
      rw [if_pos hf] at h9
      exact h9
    have c2 : evm (d + 20) 269 [aR (12, 0, 0), aI (xs (i + 1))] (I, setV M (42, 0, 0) 0 (aL (vf B.1 (fid B.1 (xs (i + 1))) 3).toInt64), R, G) = some (.inl (some (aI (vf B.1 (fid B.1 (xs (i + 1))) 3))), ((thr I 0), setV M (42, 0, 0) 0 (aL (vf B.1 (fid B.1 (xs (i + 1))) 3).toInt64), R, G)) := by
      have h9 := channelOfM_ok (d := d + 16) (M := setV M (42, 0, 0) 0 (aL (vf B.1 (fid B.1 (xs (i + 1))) 3).toInt64)) (G := G) (id := (xs (i + 1))) hR hMV
      simp only [if_pos hf] at h9
      exact h9
    have e1 : evm (d + 20) 110 [aR (11, 0, 0), aI (xs (i + 1)), aR (42, 0, 0)] (I, M, R, G) = some (.inl (some (aI 0)), (I, setV M (42, 0, 0) 0 (aL (vf B.1 (fid B.1 (xs (i + 1))) 3).toInt64), R, G)) := w110_v c1
    have e2 : evm (d + 20) 269 [aR (12, 0, 0), aI (xs (i + 1))] (I, setV M (42, 0, 0) 0 (aL (vf B.1 (fid B.1 (xs (i + 1))) 3).toInt64), R, G) = some (.inl (some (aI (vf B.1 (fid B.1 (xs (i + 1))) 3))), ((thr I 0), setV M (42, 0, 0) 0 (aL (vf B.1 (fid B.1 (xs (i + 1))) 3).toInt64), R, G)) := c2
    exact ⟨((thr I 0), setV M (42, 0, 0) 0 (aL (vf B.1 (fid B.1 (xs (i + 1))) 3).toInt64), R, G), _, _, _, rd_v h, lc18 (S1 := (I, setV M (42, 0, 0) 0 (aL (vf B.1 (fid B.1 (xs (i + 1))) 3).toInt64), R, G)) hi hL hx hx e1 e2 (thr_e thr_at) (fun _ => out_v)⟩
  · have c1 : evm (d + 19) 111 [aR (11, 0, 0), aI (xs (i + 1))] (I, M, R, G) = Ex 3 (I, M, R, G) := by
      have h9 := channelOf_ok (d := d + 15) (M := M) (G := G) (id := (xs (i + 1))) hR hV
      rw [if_neg hf] at h9
      exact h9
    have c2 : evm (d + 20) 269 [aR (12, 0, 0), aI (xs (i + 1))] (I, M, R, bG G) = some (.inl (some (aI (0))), ((thr I 1), M, R, bG G)) := by
      have h9 := channelOfM_ok (d := d + 16) (M := M) (G := bG G) (id := (xs (i + 1))) hR hMV
      simp only [if_neg hf] at h9
      exact h9
    have e1 : evm (d + 20) 110 [aR (11, 0, 0), aI (xs (i + 1)), aR (42, 0, 0)] (I, M, R, G) = some (.inl (some (aI 1)), (I, M, R, bG G)) := w110_x3 c1
    have e2 : evm (d + 20) 269 [aR (12, 0, 0), aI (xs (i + 1))] (I, M, R, bG G) = some (.inl (some (aI 0)), ((thr I 1), M, R, bG G)) := c2
    exact ⟨((thr I 1), M, R, bG G), _, _, _, rd_x h, lc18 (S1 := (I, M, R, bG G)) hi hL hx hx e1 e2 (thr_e thr_at) (fun q => absurd q (by decide))⟩
theorem call19 (h : lawI t xs (I, M, R, G) B hs sn) (hi : i + 4 ≤ L) (hL : L ≤ 2048) (ht : t < 1000) : goC d L i 1135 t xs (I, M, R, G) := by
  have hR : RF R := h.1.1
  have hC : CR I B hs sn := h.1.2.1
  have hM : MR I B hs sn := h.1.2.2
  have hB : BA I 0 B := hC.1
  have hV : BV I 0 B.1 := hB.1
  have hMV : MV I B.1 := hM.1.mv
  have hO : OB t B := h.2.1.1
  have hW : WV B.1 := hO.1
  have hx : xsS (I, M, R, G) = xs := h.2.2.2.2.2.2
  by_cases hf : fid B.1 (xs (i + 1)) < vn B.1
  · have c1 : evm (d + 19) 113 [aR (11, 0, 0), aI (xs (i + 1))] (I, M, R, G) = some (.inl (some (aI (vf B.1 (fid B.1 (xs (i + 1))) 4))), (I, M, R, G)) := by
      have h9 := expiryOf_ok (d := d + 15) (M := M) (G := G) (id := (xs (i + 1))) hR hV
      rw [if_pos hf] at h9
      exact h9
    have c2 : evm (d + 20) 270 [aR (12, 0, 0), aI (xs (i + 1))] (I, setV M (42, 0, 0) 0 (aL (vf B.1 (fid B.1 (xs (i + 1))) 4).toInt64), R, G) = some (.inl (some (aI (vf B.1 (fid B.1 (xs (i + 1))) 4))), ((thr I 0), setV M (42, 0, 0) 0 (aL (vf B.1 (fid B.1 (xs (i + 1))) 4).toInt64), R, G)) := by
      have h9 := expiryOfM_ok (d := d + 16) (M := setV M (42, 0, 0) 0 (aL (vf B.1 (fid B.1 (xs (i + 1))) 4).toInt64)) (G := G) (id := (xs (i + 1))) hR hMV
      simp only [if_pos hf] at h9
      exact h9
    have e1 : evm (d + 20) 112 [aR (11, 0, 0), aI (xs (i + 1)), aR (42, 0, 0)] (I, M, R, G) = some (.inl (some (aI 0)), (I, setV M (42, 0, 0) 0 (aL (vf B.1 (fid B.1 (xs (i + 1))) 4).toInt64), R, G)) := w112_v c1
    have e2 : evm (d + 20) 270 [aR (12, 0, 0), aI (xs (i + 1))] (I, setV M (42, 0, 0) 0 (aL (vf B.1 (fid B.1 (xs (i + 1))) 4).toInt64), R, G) = some (.inl (some (aI (vf B.1 (fid B.1 (xs (i + 1))) 4))), ((thr I 0), setV M (42, 0, 0) 0 (aL (vf B.1 (fid B.1 (xs (i + 1))) 4).toInt64), R, G)) := c2
    exact ⟨((thr I 0), setV M (42, 0, 0) 0 (aL (vf B.1 (fid B.1 (xs (i + 1))) 4).toInt64), R, G), _, _, _, rd_v h, lc19 (S1 := (I, setV M (42, 0, 0) 0 (aL (vf B.1 (fid B.1 (xs (i + 1))) 4).toInt64), R, G)) hi hL hx hx e1 e2 (thr_e thr_at) (fun _ => out_v)⟩
  · have c1 : evm (d + 19) 113 [aR (11, 0, 0), aI (xs (i + 1))] (I, M, R, G) = Ex 3 (I, M, R, G) := by
      have h9 := expiryOf_ok (d := d + 15) (M := M) (G := G) (id := (xs (i + 1))) hR hV
      rw [if_neg hf] at h9
      exact h9
    have c2 : evm (d + 20) 270 [aR (12, 0, 0), aI (xs (i + 1))] (I, M, R, bG G) = some (.inl (some (aI (0))), ((thr I 1), M, R, bG G)) := by
      have h9 := expiryOfM_ok (d := d + 16) (M := M) (G := bG G) (id := (xs (i + 1))) hR hMV
      simp only [if_neg hf] at h9
      exact h9
    have e1 : evm (d + 20) 112 [aR (11, 0, 0), aI (xs (i + 1)), aR (42, 0, 0)] (I, M, R, G) = some (.inl (some (aI 1)), (I, M, R, bG G)) := w112_x3 c1
    have e2 : evm (d + 20) 270 [aR (12, 0, 0), aI (xs (i + 1))] (I, M, R, bG G) = some (.inl (some (aI 0)), ((thr I 1), M, R, bG G)) := c2
    exact ⟨((thr I 1), M, R, bG G), _, _, _, rd_x h, lc19 (S1 := (I, M, R, bG G)) hi hL hx hx e1 e2 (thr_e thr_at) (fun q => absurd q (by decide))⟩
theorem call20 (h : lawI t xs (I, M, R, G) B hs sn) (hi : i + 4 ≤ L) (hL : L ≤ 2048) (ht : t < 1000) : goC d L i 1191 t xs (I, M, R, G) := by
  have hR : RF R := h.1.1
  have hC : CR I B hs sn := h.1.2.1
  have hM : MR I B hs sn := h.1.2.2
  have hB : BA I 0 B := hC.1
  have hV : BV I 0 B.1 := hB.1
  have hMV : MV I B.1 := hM.1.mv
  have hO : OB t B := h.2.1.1
  have hW : WV B.1 := hO.1
  have hx : xsS (I, M, R, G) = xs := h.2.2.2.2.2.2
  by_cases hf : fid B.1 (xs (i + 1)) < vn B.1
  · by_cases hl : vl B.1 (fid B.1 (xs (i + 1))) = true
    · have c1 : evm (d + 19) 115 [aR (11, 0, 0), aI (xs (i + 1))] (I, M, R, G) = some (.inl (some (aI 0)), (I, M, R, G)) := by
        have h9 := isOnTrial_ok (d := d + 15) (M := M) (G := G) (id := (xs (i + 1))) hR hV
        simp only [if_pos hf, if_pos hl] at h9
        exact h9
      have c2 : evm (d + 20) 271 [aR (12, 0, 0), aI (xs (i + 1))] (I, setV M (42, 0, 0) 0 (aL 0), R, G) = some (.inl (some (aI 0)), (thr I 0, setV M (42, 0, 0) 0 (aL 0), R, G)) := by
        have h9 := isOnTrialM_ok (d := d + 17) (M := setV M (42, 0, 0) 0 (aL 0)) (G := G) (id := (xs (i + 1))) hR hMV
        simp only [if_pos hf, if_pos hl] at h9
        exact h9
      have e1 : evm (d + 20) 114 [aR (11, 0, 0), aI (xs (i + 1)), aR (42, 0, 0)] (I, M, R, G) = some (.inl (some (aI 0)), (I, setV M (42, 0, 0) 0 (aL 0), R, G)) := w114_0 c1
      exact ⟨(thr I 0, setV M (42, 0, 0) 0 (aL 0), R, G), _, _, _, rd_v h, lc20 (S1 := (I, setV M (42, 0, 0) 0 (aL 0), R, G)) hi hL hx hx e1 c2 (thr_e thr_at) (fun _ => ⟨by decide, by rw [out_v]; rfl⟩)⟩
    · have c1 : evm (d + 19) 115 [aR (11, 0, 0), aI (xs (i + 1))] (I, M, R, G) = some (.inl (some (aI 1)), (I, M, R, G)) := by
        have h9 := isOnTrial_ok (d := d + 15) (M := M) (G := G) (id := (xs (i + 1))) hR hV
        simp only [if_pos hf, if_neg hl] at h9
        exact h9
      have c2 : evm (d + 20) 271 [aR (12, 0, 0), aI (xs (i + 1))] (I, setV M (42, 0, 0) 0 (aL 1), R, G) = some (.inl (some (aI 1)), (thr I 0, setV M (42, 0, 0) 0 (aL 1), R, G)) := by
        have h9 := isOnTrialM_ok (d := d + 17) (M := setV M (42, 0, 0) 0 (aL 1)) (G := G) (id := (xs (i + 1))) hR hMV
        simp only [if_pos hf, if_neg hl] at h9
        exact h9
      have e1 : evm (d + 20) 114 [aR (11, 0, 0), aI (xs (i + 1)), aR (42, 0, 0)] (I, M, R, G) = some (.inl (some (aI 0)), (I, setV M (42, 0, 0) 0 (aL 1), R, G)) := w114_1 c1
      exact ⟨(thr I 0, setV M (42, 0, 0) 0 (aL 1), R, G), _, _, _, rd_v h, lc20 (S1 := (I, setV M (42, 0, 0) 0 (aL 1), R, G)) hi hL hx hx e1 c2 (thr_e thr_at) (fun _ => ⟨by decide, by rw [out_v]; rfl⟩)⟩
  · have c1 : evm (d + 19) 115 [aR (11, 0, 0), aI (xs (i + 1))] (I, M, R, G) = Ex 3 (I, M, R, G) := by
      have h9 := isOnTrial_ok (d := d + 15) (M := M) (G := G) (id := (xs (i + 1))) hR hV
      rw [if_neg hf] at h9
      exact h9
    have c2 : evm (d + 20) 271 [aR (12, 0, 0), aI (xs (i + 1))] (I, M, R, bG G) = some (.inl (some (aI (0))), ((thr I 1), M, R, bG G)) := by
      have h9 := isOnTrialM_ok (d := d + 17) (M := M) (G := bG G) (id := (xs (i + 1))) hR hMV
      simp only [if_neg hf] at h9
      exact h9
    have e1 : evm (d + 20) 114 [aR (11, 0, 0), aI (xs (i + 1)), aR (42, 0, 0)] (I, M, R, G) = some (.inl (some (aI 1)), (I, M, R, bG G)) := w114_x3 c1
    have e2 : evm (d + 20) 271 [aR (12, 0, 0), aI (xs (i + 1))] (I, M, R, bG G) = some (.inl (some (aI 0)), ((thr I 1), M, R, bG G)) := c2
    exact ⟨((thr I 1), M, R, bG G), _, _, _, rd_x h, lc20 (S1 := (I, M, R, bG G)) hi hL hx hx e1 e2 (thr_e thr_at) (fun q => absurd q (by decide))⟩
end CALLS
