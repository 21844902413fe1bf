/-! THE METHODS' MEANING: the law's calls, modifications (genC2.py) -/
theorem rad_or {n m f : Int32} (h : ¬ (rg f 0 200 ∧ rg m 0 f ∧ rg n 0 m)) : n < 0 ∨ m < n ∨ f < m ∨ 200 < f := by
  by_cases g1 : n < 0
  · exact Or.inl g1
  · by_cases g2 : m < n
    · exact Or.inr (Or.inl g2)
    · by_cases g3 : f < m
      · exact Or.inr (Or.inr (Or.inl g3))
      · by_cases g4 : 200 < f
        · exact Or.inr (Or.inr (Or.inr g4))
        · exfalso
          apply h
          refine ⟨⟨?_, g4⟩, ⟨?_, g3⟩, g1, g2⟩
          · simp only [Int32.lt_iff_toInt_lt] at g1 g2 g3 ⊢
            omega
          · simp only [Int32.lt_iff_toInt_lt] at g1 g2 g3 ⊢
            omega
theorem day_N {B : Bk} {t b : Nat} {v : Int32} (hO : OB t B) (hb : b ≤ 365) (h : rg v 1 (N b)) : ∃ e, e < 1400 ∧ bday B + v = N e := by
  obtain ⟨x, x1, x2⟩ := hO.2.2.1
  obtain ⟨q, q1, q2, q3⟩ := rg1_N (by omega) h
  exact ⟨x + q, by omega, by rw [x2, q3, N_add]⟩
section CALLS
variable {d i L t : Nat} {xs : Nat → Int32} {I : OId → Nat → Int32} {M R : OId → Nat → AV} {G : SG} {B : Bk} {hs : List Bk} {sn : Option Bk}
theorem call0 (h : lawI t xs (I, M, R, G) B hs sn) (hi : i + 4 ≤ L) (hL : L ≤ 2048) (ht : t < 1000) : goC d L i 264 t xs (I, M, R, G) := by
  have hR : RF R := h.1.1
  have hC : CR I B hs sn := h.1.2.1
  have hM : MR I B hs sn := h.1.2.2
  have hB : BA I 0 B := hC.1
  have hV : BV I 0 B.1 := hB.1
  have hMV : MV I B.1 := hM.1.mv
  have hO : OB t B := h.2.1.1
  have hW : WV B.1 := hO.1
  have hx : xsS (I, M, R, G) = xs := h.2.2.2.2.2.2
  by_cases hc : rg (xs (i + 3)) 0 200 ∧ rg (xs (i + 2)) 0 (xs (i + 3)) ∧ rg (xs (i + 1)) 0 (xs (i + 2))
  · by_cases h0 : vn B.1 = 0
    · obtain ⟨I1, c1, g1, f1⟩ := CR.setRadii (d := d + 15) (M := M) (G := G) hR hC hc.1 hc.2.1 hc.2.2 h0
      have mr1 : MR I1 B hs sn := mr_a hM f1.fa
      obtain ⟨I2, c2, g7, g2, f2⟩ := MR.setRadii (d := d + 17) (M := setV M (42, 0, 0) 0 (aL (B.1.1.2.2).toInt64)) (G := G) hR mr1 hc.2.2.1 hc.2.2.2 hc.2.1.2 hc.1.2 h0
      obtain ⟨u3, v3, w3⟩ := rg_N (b := 200) (by decide) hc.1
      have hc2 := hc.2.1
      rw [w3] at hc2
      obtain ⟨u2, v2, w2⟩ := rg_N (by omega) hc2
      have hc1 := hc.2.2
      rw [w2] at hc1
      obtain ⟨u1, v1, w1⟩ := rg_N (by omega) hc1
      have ob : OB (t + 1) (radB B (xs (i + 1)) (xs (i + 2)) (xs (i + 3))) := by
        rw [w1, w2, w3]
        exact (hO.rad v1 v2 v3).le (by omega)
      have e1 : evm (d + 20) 56 [aR (11, 0, 0), aI (xs (i + 1)), aI (xs (i + 2)), aI (xs (i + 3)), aR (42, 0, 0)] (I, M, R, G) = some (.inl (some (aI 0)), (I1, setV M (42, 0, 0) 0 (aL (B.1.1.2.2).toInt64), R, G)) := w56_v c1
      have e2 : evm (d + 20) 216 [aR (12, 0, 0), aI (xs (i + 1)), aI (xs (i + 2)), aI (xs (i + 3))] (I1, setV M (42, 0, 0) 0 (aL (B.1.1.2.2).toInt64), R, G) = some (.inl (some (aI (B.1.1.2.2))), (I2, setV M (42, 0, 0) 0 (aL (B.1.1.2.2).toInt64), R, G)) := c2
      exact ⟨(I2, setV M (42, 0, 0) 0 (aL (B.1.1.2.2).toInt64), R, G), _, _, _, fin_v h f1.fa f2 g1 g2 (ob_k h ob), lc0 (S1 := (I1, setV M (42, 0, 0) 0 (aL (B.1.1.2.2).toInt64), R, G)) hi hL hx hx e1 e2 (thr_e g7) (fun _ => out_v)⟩
    · have c1 : evm (d + 19) 57 [aR (11, 0, 0), aI (xs (i + 1)), aI (xs (i + 2)), aI (xs (i + 3))] (I, M, R, G) = Ex 1 (I, M, R, G) := CR.setRadii_no1 (d := d + 15) hR hC hc.1 hc.2.1 hc.2.2 (by omega)
      have c2 : evm (d + 20) 216 [aR (12, 0, 0), aI (xs (i + 1)), aI (xs (i + 2)), aI (xs (i + 3))] (I, M, R, bG G) = some (.inl (some (aI (0))), ((thr I 2), M, R, bG G)) := MR.setRadii_no2 (d := d + 17) hR hM hc.2.2.1 hc.2.2.2 hc.2.1.2 hc.1.2 (by omega)
      have e1 : evm (d + 20) 56 [aR (11, 0, 0), aI (xs (i + 1)), aI (xs (i + 2)), aI (xs (i + 3)), aR (42, 0, 0)] (I, M, R, G) = some (.inl (some (aI 2)), (I, M, R, bG G)) := w56_x1 c1
      have e2 : evm (d + 20) 216 [aR (12, 0, 0), aI (xs (i + 1)), aI (xs (i + 2)), aI (xs (i + 3))] (I, M, R, bG G) = some (.inl (some (aI 0)), ((thr I 2), M, R, bG G)) := c2
      exact ⟨((thr I 2), M, R, bG G), _, _, _, rd_x h, lc0 (S1 := (I, M, R, bG G)) hi hL hx hx e1 e2 (thr_e thr_at) (fun q => absurd q (by decide))⟩
  · have c1 : evm (d + 19) 57 [aR (11, 0, 0), aI (xs (i + 1)), aI (xs (i + 2)), aI (xs (i + 3))] (I, M, R, G) = Ex 0 (I, M, R, G) := setRadii_no0 (d := d + 15) hc
    have c2 : evm (d + 20) 216 [aR (12, 0, 0), aI (xs (i + 1)), aI (xs (i + 2)), aI (xs (i + 3))] (I, M, R, bG G) = some (.inl (some (aI (0))), ((thr I 1), M, R, bG G)) := setRadiiM_no1 (d := d + 17) (rad_or hc)
    have e1 : evm (d + 20) 56 [aR (11, 0, 0), aI (xs (i + 1)), aI (xs (i + 2)), aI (xs (i + 3)), aR (42, 0, 0)] (I, M, R, G) = some (.inl (some (aI 1)), (I, M, R, bG G)) := w56_x0 c1
    have e2 : evm (d + 20) 216 [aR (12, 0, 0), aI (xs (i + 1)), aI (xs (i + 2)), aI (xs (i + 3))] (I, M, R, bG G) = some (.inl (some (aI 0)), ((thr I 1), M, R, bG G)) := c2
    exact ⟨((thr I 1), M, R, bG G), _, _, _, rd_x h, lc0 (S1 := (I, M, R, bG G)) hi hL hx hx e1 e2 (thr_e thr_at) (fun q => absurd q (by decide))⟩
theorem call5 (h : lawI t xs (I, M, R, G) B hs sn) (hi : i + 4 ≤ L) (hL : L ≤ 2048) (ht : t < 1000) : goC d L i 463 t xs (I, M, R, G) := by
  have hR : RF R := h.1.1
  have hC : CR I B hs sn := h.1.2.1
  have hM : MR I B hs sn := h.1.2.2
  have hB : BA I 0 B := hC.1
  have hV : BV I 0 B.1 := hB.1
  have hMV : MV I B.1 := hM.1.mv
  have hO : OB t B := h.2.1.1
  have hW : WV B.1 := hO.1
  have hx : xsS (I, M, R, G) = xs := h.2.2.2.2.2.2
  by_cases hp : (rg (xs (i + 1)) 0 99 ∧ rg (xs (i + 2)) 0 99) ∧ rg (xs (i + 3)) 1 30
  · by_cases hv : vn B.1 < 7
    · cases hq : qfv B.1 (xs (i + 1)) (xs (i + 2)) 8 with
      | some c =>
        obtain ⟨I1, c1, g1, f1⟩ := CR.startTrial (d := d + 15) (M := M) (G := G) hR hC hW hp.1 hp.2 hv hq
        have mr1 : MR I1 B hs sn := mr_a hM f1.fa
        obtain ⟨I2, c2, g7, g2, f2⟩ := MR.startTrial (d := d + 15) (M := setV M (42, 0, 0) 0 (aL (bnext B).toInt64)) (G := G) hR mr1 hp.1 hp.2 hv hq
        obtain ⟨x0, x1, x2⟩ := rg_N (b := 99) (by decide) hp.1.1
        obtain ⟨y0, y1, y2⟩ := rg_N (b := 99) (by decide) hp.1.2
        obtain ⟨e0, e1', e2'⟩ := day_N (b := 30) hO (by decide) hp.2
        have hc8 : c < 8 := (bestf_lt (show bestf _ _ 8 = some c from hq)).1
        have ob : OB (t + 1) (addB B (xs (i + 1)) (xs (i + 2)) (N c) (bday B + (xs (i + 3))) false) := by
          rw [e2', x2, y2]
          exact hO.add hv (by omega) (by omega) hc8 e1' (by omega)
        have e1 : evm (d + 20) 83 [aR (11, 0, 0), aI (xs (i + 1)), aI (xs (i + 2)), aI (xs (i + 3)), aR (42, 0, 0)] (I, M, R, G) = some (.inl (some (aI 0)), (I1, setV M (42, 0, 0) 0 (aL (bnext B).toInt64), R, G)) := w83_v c1
        have e2 : evm (d + 20) 250 [aR (12, 0, 0), aI (xs (i + 1)), aI (xs (i + 2)), aI (xs (i + 3))] (I1, setV M (42, 0, 0) 0 (aL (bnext B).toInt64), R, G) = some (.inl (some (aI (bnext B))), (I2, setV M (42, 0, 0) 0 (aL (bnext B).toInt64), R, G)) := c2
        exact ⟨(I2, setV M (42, 0, 0) 0 (aL (bnext B).toInt64), R, G), _, _, _, fin_v h f1.fa f2 g1 g2 (ob_k h ob), lc5 (S1 := (I1, setV M (42, 0, 0) 0 (aL (bnext B).toInt64), R, G)) hi hL hx hx e1 e2 (thr_e g7) (fun _ => out_v)⟩
      | none =>
        have c1 : evm (d + 19) 84 [aR (11, 0, 0), aI (xs (i + 1)), aI (xs (i + 2)), aI (xs (i + 3))] (I, M, R, G) = Ex 2 (I, M, R, G) := CR.startTrial_no2 (d := d + 15) hR hC hW hp.1 hp.2 hv hq
        have c2 : evm (d + 20) 250 [aR (12, 0, 0), aI (xs (i + 1)), aI (xs (i + 2)), aI (xs (i + 3))] (I, M, R, bG G) = some (.inl (some (aI (0))), ((thr I 3), M, R, bG G)) := MR.startTrial_no3 (d := d + 15) hR hM hp.1 hp.2 hv hq
        have e1 : evm (d + 20) 83 [aR (11, 0, 0), aI (xs (i + 1)), aI (xs (i + 2)), aI (xs (i + 3)), aR (42, 0, 0)] (I, M, R, G) = some (.inl (some (aI 3)), (I, M, R, bG G)) := w83_x2 c1
        have e2 : evm (d + 20) 250 [aR (12, 0, 0), aI (xs (i + 1)), aI (xs (i + 2)), aI (xs (i + 3))] (I, M, R, bG G) = some (.inl (some (aI 0)), ((thr I 3), M, R, bG G)) := c2
        exact ⟨((thr I 3), M, R, bG G), _, _, _, rd_x h, lc5 (S1 := (I, M, R, bG G)) hi hL hx hx e1 e2 (thr_e thr_at) (fun q => absurd q (by decide))⟩
    · have c1 : evm (d + 19) 84 [aR (11, 0, 0), aI (xs (i + 1)), aI (xs (i + 2)), aI (xs (i + 3))] (I, M, R, G) = Ex 1 (I, M, R, G) := CR.startTrial_no1 (d := d + 15) hR hC hp.1 hp.2 hv
      have c2 : evm (d + 20) 250 [aR (12, 0, 0), aI (xs (i + 1)), aI (xs (i + 2)), aI (xs (i + 3))] (I, M, R, bG G) = some (.inl (some (aI (0))), ((thr I 2), M, R, bG G)) := MR.startTrial_no2 (d := d + 15) hR hM hp.1 hp.2 hv
      have e1 : evm (d + 20) 83 [aR (11, 0, 0), aI (xs (i + 1)), aI (xs (i + 2)), aI (xs (i + 3)), aR (42, 0, 0)] (I, M, R, G) = some (.inl (some (aI 2)), (I, M, R, bG G)) := w83_x1 c1
      have e2 : evm (d + 20) 250 [aR (12, 0, 0), aI (xs (i + 1)), aI (xs (i + 2)), aI (xs (i + 3))] (I, M, R, bG G) = some (.inl (some (aI 0)), ((thr I 2), M, R, bG G)) := c2
      exact ⟨((thr I 2), M, R, bG G), _, _, _, rd_x h, lc5 (S1 := (I, M, R, bG G)) hi hL hx hx e1 e2 (thr_e thr_at) (fun q => absurd q (by decide))⟩
  · have c1 : evm (d + 19) 84 [aR (11, 0, 0), aI (xs (i + 1)), aI (xs (i + 2)), aI (xs (i + 3))] (I, M, R, G) = Ex 0 (I, M, R, G) := startTrial_no0 (d := d + 15) hp
    have c2 : evm (d + 20) 250 [aR (12, 0, 0), aI (xs (i + 1)), aI (xs (i + 2)), aI (xs (i + 3))] (I, M, R, bG G) = some (.inl (some (aI (0))), ((thr I 1), M, R, bG G)) := startTrialM_no1 (d := d + 15) hp
    have e1 : evm (d + 20) 83 [aR (11, 0, 0), aI (xs (i + 1)), aI (xs (i + 2)), aI (xs (i + 3)), aR (42, 0, 0)] (I, M, R, G) = some (.inl (some (aI 1)), (I, M, R, bG G)) := w83_x0 c1
    have e2 : evm (d + 20) 250 [aR (12, 0, 0), aI (xs (i + 1)), aI (xs (i + 2)), aI (xs (i + 3))] (I, M, R, bG G) = some (.inl (some (aI 0)), ((thr I 1), M, R, bG G)) := c2
    exact ⟨((thr I 1), M, R, bG G), _, _, _, rd_x h, lc5 (S1 := (I, M, R, bG G)) hi hL hx hx e1 e2 (thr_e thr_at) (fun q => absurd q (by decide))⟩
theorem call6 (h : lawI t xs (I, M, R, G) B hs sn) (hi : i + 4 ≤ L) (hL : L ≤ 2048) (ht : t < 1000) : goC d L i 543 t xs (I, M, R, G) := by
  have hR : RF R := h.1.1
  have hC : CR I B hs sn := h.1.2.1
  have hM : MR I B hs sn := h.1.2.2
  have hB : BA I 0 B := hC.1
  have hV : BV I 0 B.1 := hB.1
  have hMV : MV I B.1 := hM.1.mv
  have hO : OB t B := h.2.1.1
  have hW : WV B.1 := hO.1
  have hx : xsS (I, M, R, G) = xs := h.2.2.2.2.2.2
  by_cases hf : fid B.1 (xs (i + 1)) < vn B.1
  · by_cases hr : rg (xs (i + 2)) 1 365
    · by_cases hl : vl B.1 (fid B.1 (xs (i + 1))) = true
      · have c1 : evm (d + 19) 89 [aR (11, 0, 0), aI (xs (i + 1)), aI (xs (i + 2))] (I, M, R, G) = Ex 1 (I, M, R, G) := CR.confirm_no1 (d := d + 15) hR hC hf hr hl
        have c2 : evm (d + 20) 252 [aR (12, 0, 0), aI (xs (i + 1)), aI (xs (i + 2))] (I, M, R, bG G) = some (.inl (some (aI (0))), ((thr I 3), M, R, bG G)) := MR.confirm_no3 (d := d + 17) hR hM hf hr hl
        have e1 : evm (d + 20) 88 [aR (11, 0, 0), aI (xs (i + 1)), aI (xs (i + 2)), aR (42, 0, 0)] (I, M, R, G) = some (.inl (some (aI 3)), (I, M, R, bG G)) := w88_x1 c1
        have e2 : evm (d + 20) 252 [aR (12, 0, 0), aI (xs (i + 1)), aI (xs (i + 2))] (I, M, R, bG G) = some (.inl (some (aI 0)), ((thr I 3), M, R, bG G)) := c2
        exact ⟨((thr I 3), M, R, bG G), _, _, _, rd_x h, lc6 (S1 := (I, M, R, bG G)) hi hL hx hx e1 e2 (thr_e thr_at) (fun q => absurd q (by decide))⟩
      · have hl' : vl B.1 (fid B.1 (xs (i + 1))) = false := by
          cases hb : vl B.1 (fid B.1 (xs (i + 1)))
          · rfl
          · exact absurd hb hl
        obtain ⟨I1, c1, g1, f1⟩ := CR.confirm (d := d + 15) (M := M) (G := G) hR hC hf hr hl'
        have mr1 : MR I1 B hs sn := mr_a hM f1.fa
        obtain ⟨I2, c2, g7, g2, f2⟩ := MR.confirm (d := d + 17) (M := setV M (42, 0, 0) 0 (aL (bday B + (xs (i + 2))).toInt64)) (G := G) hR mr1 hf hr hl'
        obtain ⟨e0, e1', e2'⟩ := day_N (b := 365) hO (by decide) hr
        have ob : OB (t + 1) (fdB (liB B (fid B.1 (xs (i + 1)))) (fid B.1 (xs (i + 1))) 4 (bday B + (xs (i + 2)))) := by
          rw [e2']
          exact (hO.li.ex e1').le (by omega)
        have e1 : evm (d + 20) 88 [aR (11, 0, 0), aI (xs (i + 1)), aI (xs (i + 2)), aR (42, 0, 0)] (I, M, R, G) = some (.inl (some (aI 0)), (I1, setV M (42, 0, 0) 0 (aL (bday B + (xs (i + 2))).toInt64), R, G)) := w88_v c1
        have e2 : evm (d + 20) 252 [aR (12, 0, 0), aI (xs (i + 1)), aI (xs (i + 2))] (I1, setV M (42, 0, 0) 0 (aL (bday B + (xs (i + 2))).toInt64), R, G) = some (.inl (some (aI (bday B + (xs (i + 2))))), (I2, setV M (42, 0, 0) 0 (aL (bday B + (xs (i + 2))).toInt64), R, G)) := c2
        exact ⟨(I2, setV M (42, 0, 0) 0 (aL (bday B + (xs (i + 2))).toInt64), R, G), _, _, _, fin_v h f1.fa f2 g1 g2 (ob_k h ob), lc6 (S1 := (I1, setV M (42, 0, 0) 0 (aL (bday B + (xs (i + 2))).toInt64), R, G)) hi hL hx hx e1 e2 (thr_e g7) (fun _ => out_v)⟩
    · have c1 : evm (d + 19) 89 [aR (11, 0, 0), aI (xs (i + 1)), aI (xs (i + 2))] (I, M, R, G) = Ex 0 (I, M, R, G) := CR.confirm_no0 (d := d + 15) hR hC hf hr
      have c2 : evm (d + 20) 252 [aR (12, 0, 0), aI (xs (i + 1)), aI (xs (i + 2))] (I, M, R, bG G) = some (.inl (some (aI (0))), ((thr I 2), M, R, bG G)) := MR.confirm_no2 (d := d + 17) hR hM hf hr
      have e1 : evm (d + 20) 88 [aR (11, 0, 0), aI (xs (i + 1)), aI (xs (i + 2)), aR (42, 0, 0)] (I, M, R, G) = some (.inl (some (aI 2)), (I, M, R, bG G)) := w88_x0 c1
      have e2 : evm (d + 20) 252 [aR (12, 0, 0), aI (xs (i + 1)), aI (xs (i + 2))] (I, M, R, bG G) = some (.inl (some (aI 0)), ((thr I 2), M, R, bG G)) := c2
      exact ⟨((thr I 2), M, R, bG G), _, _, _, rd_x h, lc6 (S1 := (I, M, R, bG G)) hi hL hx hx e1 e2 (thr_e thr_at) (fun q => absurd q (by decide))⟩
  · have c1 : evm (d + 19) 89 [aR (11, 0, 0), aI (xs (i + 1)), aI (xs (i + 2))] (I, M, R, G) = Ex 3 (I, M, R, G) := CR.confirm_no3 (d := d + 15) hR hC hf
    have c2 : evm (d + 20) 252 [aR (12, 0, 0), aI (xs (i + 1)), aI (xs (i + 2))] (I, M, R, bG G) = some (.inl (some (aI (0))), ((thr I 1), M, R, bG G)) := MR.confirm_no1 (d := d + 17) hR hM hf
    have e1 : evm (d + 20) 88 [aR (11, 0, 0), aI (xs (i + 1)), aI (xs (i + 2)), aR (42, 0, 0)] (I, M, R, G) = some (.inl (some (aI 1)), (I, M, R, bG G)) := w88_x3 c1
    have e2 : evm (d + 20) 252 [aR (12, 0, 0), aI (xs (i + 1)), aI (xs (i + 2))] (I, M, R, bG G) = some (.inl (some (aI 0)), ((thr I 1), M, R, bG G)) := c2
    exact ⟨((thr I 1), M, R, bG G), _, _, _, rd_x h, lc6 (S1 := (I, M, R, bG G)) hi hL hx hx e1 e2 (thr_e thr_at) (fun q => absurd q (by decide))⟩
theorem call7 (h : lawI t xs (I, M, R, G) B hs sn) (hi : i + 4 ≤ L) (hL : L ≤ 2048) (ht : t < 1000) : goC d L i 611 t xs (I, M, R, G) := by
  have hR : RF R := h.1.1
  have hC : CR I B hs sn := h.1.2.1
  have hM : MR I B hs sn := h.1.2.2
  have hB : BA I 0 B := hC.1
  have hV : BV I 0 B.1 := hB.1
  have hMV : MV I B.1 := hM.1.mv
  have hO : OB t B := h.2.1.1
  have hW : WV B.1 := hO.1
  have hx : xsS (I, M, R, G) = xs := h.2.2.2.2.2.2
  by_cases hf : fid B.1 (xs (i + 1)) < vn B.1
  · by_cases hr : rg (xs (i + 2)) 1 365
    · by_cases hq : vl B.1 (fid B.1 (xs (i + 1))) = true ∧ vf B.1 (fid B.1 (xs (i + 1))) 4 + (xs (i + 2)) ≤ bday B + 365
      · obtain ⟨I1, c1, g1, f1⟩ := CR.renew (d := d + 15) (M := M) (G := G) hR hC hf hr hq.1 hq.2
        have mr1 : MR I1 B hs sn := mr_a hM f1.fa
        obtain ⟨I2, c2, g7, g2, f2⟩ := MR.renew (d := d + 17) (M := setV M (42, 0, 0) 0 (aL (vf B.1 (fid B.1 (xs (i + 1))) 4 + (xs (i + 2))).toInt64)) (G := G) hR mr1 hf hr hq.1 hq.2
        obtain ⟨x, x1, x2⟩ := hO.2.2.1
        obtain ⟨q, q1, q2, q3⟩ := rg1_N (b := 365) (by decide) hr
        obtain ⟨e, e1', e2'⟩ := hO.2.2.2.1 _ hf
        have h9 : N e + N q ≤ N x + N 365 := by
          rw [← e2', ← q3, ← x2]
          exact hq.2
        rw [N_add, N_add, N_le (by omega) (by omega)] at h9
        have ob : OB (t + 1) (fdB B (fid B.1 (xs (i + 1))) 4 (vf B.1 (fid B.1 (xs (i + 1))) 4 + (xs (i + 2)))) := by
          rw [e2', q3, N_add]
          exact (hO.ex (by omega)).le (by omega)
        have e1 : evm (d + 20) 91 [aR (11, 0, 0), aI (xs (i + 1)), aI (xs (i + 2)), aR (42, 0, 0)] (I, M, R, G) = some (.inl (some (aI 0)), (I1, setV M (42, 0, 0) 0 (aL (vf B.1 (fid B.1 (xs (i + 1))) 4 + (xs (i + 2))).toInt64), R, G)) := w91_v c1
        have e2 : evm (d + 20) 254 [aR (12, 0, 0), aI (xs (i + 1)), aI (xs (i + 2))] (I1, setV M (42, 0, 0) 0 (aL (vf B.1 (fid B.1 (xs (i + 1))) 4 + (xs (i + 2))).toInt64), R, G) = some (.inl (some (aI (vf B.1 (fid B.1 (xs (i + 1))) 4 + (xs (i + 2))))), (I2, setV M (42, 0, 0) 0 (aL (vf B.1 (fid B.1 (xs (i + 1))) 4 + (xs (i + 2))).toInt64), R, G)) := c2
        exact ⟨(I2, setV M (42, 0, 0) 0 (aL (vf B.1 (fid B.1 (xs (i + 1))) 4 + (xs (i + 2))).toInt64), R, G), _, _, _, fin_v h f1.fa f2 g1 g2 (ob_k h ob), lc7 (S1 := (I1, setV M (42, 0, 0) 0 (aL (vf B.1 (fid B.1 (xs (i + 1))) 4 + (xs (i + 2))).toInt64), R, G)) hi hL hx hx e1 e2 (thr_e g7) (fun _ => out_v)⟩
      · have c1 : evm (d + 19) 92 [aR (11, 0, 0), aI (xs (i + 1)), aI (xs (i + 2))] (I, M, R, G) = Ex 1 (I, M, R, G) := CR.renew_no1 (d := d + 15) hR hC hf hr hq
        have c2 : evm (d + 20) 254 [aR (12, 0, 0), aI (xs (i + 1)), aI (xs (i + 2))] (I, M, R, bG G) = some (.inl (some (aI (0))), ((thr I 3), M, R, bG G)) := MR.renew_no3 (d := d + 17) hR hM hf hr hq
        have e1 : evm (d + 20) 91 [aR (11, 0, 0), aI (xs (i + 1)), aI (xs (i + 2)), aR (42, 0, 0)] (I, M, R, G) = some (.inl (some (aI 3)), (I, M, R, bG G)) := w91_x1 c1
        have e2 : evm (d + 20) 254 [aR (12, 0, 0), aI (xs (i + 1)), aI (xs (i + 2))] (I, M, R, bG G) = some (.inl (some (aI 0)), ((thr I 3), M, R, bG G)) := c2
        exact ⟨((thr I 3), M, R, bG G), _, _, _, rd_x h, lc7 (S1 := (I, M, R, bG G)) hi hL hx hx e1 e2 (thr_e thr_at) (fun q => absurd q (by decide))⟩
    · have c1 : evm (d + 19) 92 [aR (11, 0, 0), aI (xs (i + 1)), aI (xs (i + 2))] (I, M, R, G) = Ex 0 (I, M, R, G) := CR.renew_no0 (d := d + 15) hR hC hf hr
      have c2 : evm (d + 20) 254 [aR (12, 0, 0), aI (xs (i + 1)), aI (xs (i + 2))] (I, M, R, bG G) = some (.inl (some (aI (0))), ((thr I 2), M, R, bG G)) := MR.renew_no2 (d := d + 17) hR hM hf hr
      have e1 : evm (d + 20) 91 [aR (11, 0, 0), aI (xs (i + 1)), aI (xs (i + 2)), aR (42, 0, 0)] (I, M, R, G) = some (.inl (some (aI 2)), (I, M, R, bG G)) := w91_x0 c1
      have e2 : evm (d + 20) 254 [aR (12, 0, 0), aI (xs (i + 1)), aI (xs (i + 2))] (I, M, R, bG G) = some (.inl (some (aI 0)), ((thr I 2), M, R, bG G)) := c2
      exact ⟨((thr I 2), M, R, bG G), _, _, _, rd_x h, lc7 (S1 := (I, M, R, bG G)) hi hL hx hx e1 e2 (thr_e thr_at) (fun q => absurd q (by decide))⟩
  · have c1 : evm (d + 19) 92 [aR (11, 0, 0), aI (xs (i + 1)), aI (xs (i + 2))] (I, M, R, G) = Ex 3 (I, M, R, G) := CR.renew_no3 (d := d + 15) hR hC hf
    have c2 : evm (d + 20) 254 [aR (12, 0, 0), aI (xs (i + 1)), aI (xs (i + 2))] (I, M, R, bG G) = some (.inl (some (aI (0))), ((thr I 1), M, R, bG G)) := MR.renew_no1 (d := d + 17) hR hM hf
    have e1 : evm (d + 20) 91 [aR (11, 0, 0), aI (xs (i + 1)), aI (xs (i + 2)), aR (42, 0, 0)] (I, M, R, G) = some (.inl (some (aI 1)), (I, M, R, bG G)) := w91_x3 c1
    have e2 : evm (d + 20) 254 [aR (12, 0, 0), aI (xs (i + 1)), aI (xs (i + 2))] (I, M, R, bG G) = some (.inl (some (aI 0)), ((thr I 1), M, R, bG G)) := c2
    exact ⟨((thr I 1), M, R, bG G), _, _, _, rd_x h, lc7 (S1 := (I, M, R, bG G)) hi hL hx hx e1 e2 (thr_e thr_at) (fun q => absurd q (by decide))⟩
theorem call8 (h : lawI t xs (I, M, R, G) B hs sn) (hi : i + 4 ≤ L) (hL : L ≤ 2048) (ht : t < 1000) : goC d L i 679 t xs (I, M, R, G) := by
  have hR : RF R := h.1.1
  have hC : CR I B hs sn := h.1.2.1
  have hM : MR I B hs sn := h.1.2.2
  have hB : BA I 0 B := hC.1
  have hV : BV I 0 B.1 := hB.1
  have hMV : MV I B.1 := hM.1.mv
  have hO : OB t B := h.2.1.1
  have hW : WV B.1 := hO.1
  have hx : xsS (I, M, R, G) = xs := h.2.2.2.2.2.2
  by_cases hf : fid B.1 (xs (i + 1)) < vn B.1
  · obtain ⟨I1, c1, g1, f1⟩ := CR.close (d := d + 14) (M := M) (G := G) hR hC hf
    have mr1 : MR I1 B hs sn := mr_a hM f1.fa
    obtain ⟨I2, c2, g7, g2, f2⟩ := MR.close (d := d + 17) (M := setV M (42, 0, 0) 0 (aL (N (vn B.1 - 1)).toInt64)) (G := G) hR mr1 hf
    have ob : OB (t + 1) (remB B (fid B.1 (xs (i + 1)))) := (hO.rem hf).le (by omega)
    have e1 : evm (d + 20) 94 [aR (11, 0, 0), aI (xs (i + 1)), aR (42, 0, 0)] (I, M, R, G) = some (.inl (some (aI 0)), (I1, setV M (42, 0, 0) 0 (aL (N (vn B.1 - 1)).toInt64), R, G)) := w94_v c1
    have e2 : evm (d + 20) 255 [aR (12, 0, 0), aI (xs (i + 1))] (I1, setV M (42, 0, 0) 0 (aL (N (vn B.1 - 1)).toInt64), R, G) = some (.inl (some (aI (N (vn B.1 - 1)))), (I2, setV M (42, 0, 0) 0 (aL (N (vn B.1 - 1)).toInt64), R, G)) := c2
    exact ⟨(I2, setV M (42, 0, 0) 0 (aL (N (vn B.1 - 1)).toInt64), R, G), _, _, _, fin_v h f1.fa f2 g1 g2 (ob_k h ob), lc8 (S1 := (I1, setV M (42, 0, 0) 0 (aL (N (vn B.1 - 1)).toInt64), R, G)) hi hL hx hx e1 e2 (thr_e g7) (fun _ => out_v)⟩
  · have c1 : evm (d + 19) 95 [aR (11, 0, 0), aI (xs (i + 1))] (I, M, R, G) = Ex 3 (I, M, R, G) := CR.close_no (d := d + 14) hR hC hf
    have c2 : evm (d + 20) 255 [aR (12, 0, 0), aI (xs (i + 1))] (I, M, R, bG G) = some (.inl (some (aI (0))), ((thr I 1), M, R, bG G)) := MR.close_no (d := d + 17) hR hM hf
    have e1 : evm (d + 20) 94 [aR (11, 0, 0), aI (xs (i + 1)), aR (42, 0, 0)] (I, M, R, G) = some (.inl (some (aI 1)), (I, M, R, bG G)) := w94_x3 c1
    have e2 : evm (d + 20) 255 [aR (12, 0, 0), aI (xs (i + 1))] (I, M, R, bG G) = some (.inl (some (aI 0)), ((thr I 1), M, R, bG G)) := c2
    exact ⟨((thr I 1), M, R, bG G), _, _, _, rd_x h, lc8 (S1 := (I, M, R, bG G)) hi hL hx hx e1 e2 (thr_e thr_at) (fun q => absurd q (by decide))⟩
theorem call9 (h : lawI t xs (I, M, R, G) B hs sn) (hi : i + 4 ≤ L) (hL : L ≤ 2048) (ht : t < 1000) : goC d L i 735 t xs (I, M, R, G) := by
  have hR : RF R := h.1.1
  have hC : CR I B hs sn := h.1.2.1
  have hM : MR I B hs sn := h.1.2.2
  have hB : BA I 0 B := hC.1
  have hV : BV I 0 B.1 := hB.1
  have hMV : MV I B.1 := hM.1.mv
  have hO : OB t B := h.2.1.1
  have hW : WV B.1 := hO.1
  have hx : xsS (I, M, R, G) = xs := h.2.2.2.2.2.2
  by_cases hr : rg (xs (i + 1)) 1 99
  · by_cases h2 : bday B + (xs (i + 1)) ≤ 999
    · obtain ⟨q, q1, q2, q3⟩ := rg1_N (b := 99) (by decide) hr
      have h2' := h2
      rw [q3] at h2'
      obtain ⟨I1, c1', g1, f1⟩ := CR.pass (d := d + 13) (M := M) (G := G) hR hC ⟨q1, q2⟩ h2'
      have mr1 : MR I1 B hs sn := mr_a hM f1.fa
      obtain ⟨I2, c2', g7, g2, f2⟩ := MR.pass (d := d + 17) (M := setV M (42, 0, 0) 0 (aL (bexp (ndN q B) - bexp B).toInt64)) (G := G) hR mr1 ⟨q1, q2⟩ h2'
      obtain ⟨x, x1, x2⟩ := hO.2.2.1
      have h9 : N x + N q ≤ N 999 := by
        rw [← x2]
        exact h2'
      rw [N_add, N_le (by omega) (by omega)] at h9
      have ob : OB (t + 1) (ndN q B) := (OB.ndn q B hO ⟨x, h9, x2⟩).le (by omega)
      have c1 : evm (d + 19) 97 [aR (11, 0, 0), aI (xs (i + 1))] (I, M, R, G) = some (.inl (some (aI (bexp (ndN q B) - bexp B))), (I1, M, R, G)) := by
        rw [q3]
        exact c1'
      have c2 : evm (d + 20) 257 [aR (12, 0, 0), aI (xs (i + 1))] (I1, setV M (42, 0, 0) 0 (aL (bexp (ndN q B) - bexp B).toInt64), R, G) = some (.inl (some (aI (bexp (ndN q B) - bexp B))), (I2, setV M (42, 0, 0) 0 (aL (bexp (ndN q B) - bexp B).toInt64), R, G)) := by
        rw [q3]
        exact c2'
      have e1 : evm (d + 20) 96 [aR (11, 0, 0), aI (xs (i + 1)), aR (42, 0, 0)] (I, M, R, G) = some (.inl (some (aI 0)), (I1, setV M (42, 0, 0) 0 (aL (bexp (ndN q B) - bexp B).toInt64), R, G)) := w96_v c1
      have e2 : evm (d + 20) 257 [aR (12, 0, 0), aI (xs (i + 1))] (I1, setV M (42, 0, 0) 0 (aL (bexp (ndN q B) - bexp B).toInt64), R, G) = some (.inl (some (aI (bexp (ndN q B) - bexp B))), (I2, setV M (42, 0, 0) 0 (aL (bexp (ndN q B) - bexp B).toInt64), R, G)) := c2
      exact ⟨(I2, setV M (42, 0, 0) 0 (aL (bexp (ndN q B) - bexp B).toInt64), R, G), _, _, _, fin_v h f1.fa f2 g1 g2 (ob_k h ob), lc9 (S1 := (I1, setV M (42, 0, 0) 0 (aL (bexp (ndN q B) - bexp B).toInt64), R, G)) hi hL hx hx e1 e2 (thr_e g7) (fun _ => out_v)⟩
    · have c1 : evm (d + 19) 97 [aR (11, 0, 0), aI (xs (i + 1))] (I, M, R, G) = Ex 1 (I, M, R, G) := CR.pass_no1 (d := d + 13) hR hC hr h2
      have c2 : evm (d + 20) 257 [aR (12, 0, 0), aI (xs (i + 1))] (I, M, R, bG G) = some (.inl (some (aI (0))), ((thr I 2), M, R, bG G)) := MR.pass_no2 (d := d + 17) hR hM hr h2
      have e1 : evm (d + 20) 96 [aR (11, 0, 0), aI (xs (i + 1)), aR (42, 0, 0)] (I, M, R, G) = some (.inl (some (aI 2)), (I, M, R, bG G)) := w96_x1 c1
      have e2 : evm (d + 20) 257 [aR (12, 0, 0), aI (xs (i + 1))] (I, M, R, bG G) = some (.inl (some (aI 0)), ((thr I 2), M, R, bG G)) := c2
      exact ⟨((thr I 2), M, R, bG G), _, _, _, rd_x h, lc9 (S1 := (I, M, R, bG G)) hi hL hx hx e1 e2 (thr_e thr_at) (fun q => absurd q (by decide))⟩
  · have c1 : evm (d + 19) 97 [aR (11, 0, 0), aI (xs (i + 1))] (I, M, R, G) = Ex 0 (I, M, R, G) := pass_no0 (d := d + 13) hr
    have c2 : evm (d + 20) 257 [aR (12, 0, 0), aI (xs (i + 1))] (I, M, R, bG G) = some (.inl (some (aI (0))), ((thr I 1), M, R, bG G)) := passM_no1 (d := d + 17) hr
    have e1 : evm (d + 20) 96 [aR (11, 0, 0), aI (xs (i + 1)), aR (42, 0, 0)] (I, M, R, G) = some (.inl (some (aI 1)), (I, M, R, bG G)) := w96_x0 c1
    have e2 : evm (d + 20) 257 [aR (12, 0, 0), aI (xs (i + 1))] (I, M, R, bG G) = some (.inl (some (aI 0)), ((thr I 1), M, R, bG G)) := c2
    exact ⟨((thr I 1), M, R, bG G), _, _, _, rd_x h, lc9 (S1 := (I, M, R, bG G)) hi hL hx hx e1 e2 (thr_e thr_at) (fun q => absurd q (by decide))⟩
theorem call48 (h : lawI t xs (I, M, R, G) B hs sn) (hi : i + 4 ≤ L) (hL : L ≤ 2048) (ht : t < 1000) : goC d L i 2698 t xs (I, M, R, G) := by
  have hR : RF R := h.1.1
  have hC : CR I B hs sn := h.1.2.1
  have hM : MR I B hs sn := h.1.2.2
  have hB : BA I 0 B := hC.1
  have hV : BV I 0 B.1 := hB.1
  have hMV : MV I B.1 := hM.1.mv
  have hO : OB t B := h.2.1.1
  have hW : WV B.1 := hO.1
  have hx : xsS (I, M, R, G) = xs := h.2.2.2.2.2.2
  cases hs with
  | nil =>
    have c1 : evm (d + 19) 209 [aR (11, 0, 0)] (I, M, R, G) = Ex 1 (I, M, R, G) := CR.undo_no (d := d + 18) hR hC
    have c2 : evm (d + 20) 308 [aR (12, 0, 0)] (I, M, R, bG G) = some (.inl (some (aI (0))), ((thr I 1), M, R, bG G)) := MR.undo_no (d := d + 18) hR hM
    have e1 : evm (d + 20) 208 [aR (11, 0, 0), aR (42, 0, 0)] (I, M, R, G) = some (.inl (some (aI 1)), (I, M, R, bG G)) := w208_x1 c1
    have e2 : evm (d + 20) 308 [aR (12, 0, 0)] (I, M, R, bG G) = some (.inl (some (aI 0)), ((thr I 1), M, R, bG G)) := c2
    exact ⟨((thr I 1), M, R, bG G), _, _, _, rd_x h, lc48 (S1 := (I, M, R, bG G)) hi hL hx hx e1 e2 (thr_e thr_at) (fun q => absurd q (by decide))⟩
  | cons b hs =>
    obtain ⟨I1, c1, g1, f1⟩ := CR.undo (d := d + 15) (M := M) (G := G) hR hC
    have mr1 : MR I1 B (b :: hs) sn := mr_a hM f1.fa
    obtain ⟨I2, c2, g7, g2, f2⟩ := MR.undo (d := d + 18) (M := setV M (42, 0, 0) 0 (aL (N hs.length).toInt64)) (G := G) hR mr1
    have o9 := ob_0 h
    have e1 : evm (d + 20) 208 [aR (11, 0, 0), aR (42, 0, 0)] (I, M, R, G) = some (.inl (some (aI 0)), (I1, setV M (42, 0, 0) 0 (aL (N hs.length).toInt64), R, G)) := w208_v c1
    have e2 : evm (d + 20) 308 [aR (12, 0, 0)] (I1, setV M (42, 0, 0) 0 (aL (N hs.length).toInt64), R, G) = some (.inl (some (aI (N hs.length))), (I2, setV M (42, 0, 0) 0 (aL (N hs.length).toInt64), R, G)) := c2
    exact ⟨(I2, setV M (42, 0, 0) 0 (aL (N hs.length).toInt64), R, G), _, _, _, fin_v h f1.fa f2 g1 g2 ⟨o9.2.1 b List.mem_cons_self, fun b9 hb9 => o9.2.1 b9 (List.mem_cons_of_mem _ hb9), o9.2.2⟩, lc48 (S1 := (I1, setV M (42, 0, 0) 0 (aL (N hs.length).toInt64), R, G)) hi hL hx hx e1 e2 (thr_e g7) (fun _ => out_v)⟩
theorem call49 (h : lawI t xs (I, M, R, G) B hs sn) (hi : i + 4 ≤ L) (hL : L ≤ 2048) (ht : t < 1000) : goC d L i 2742 t xs (I, M, R, G) := by
  have hR : RF R := h.1.1
  have hC : CR I B hs sn := h.1.2.1
  have hM : MR I B hs sn := h.1.2.2
  have hB : BA I 0 B := hC.1
  have hV : BV I 0 B.1 := hB.1
  have hMV : MV I B.1 := hM.1.mv
  have hO : OB t B := h.2.1.1
  have hW : WV B.1 := hO.1
  have hx : xsS (I, M, R, G) = xs := h.2.2.2.2.2.2
  obtain ⟨I1, e1, g1, f1⟩ := CR.save (d := d + 17) (M := M) (G := G) hR hC
  have mr1 : MR I1 B hs sn := mr_a hM f1.fa
  obtain ⟨I2, e2, g7, g2, f2⟩ := MR.save (d := d + 18) (M := M) (G := G) hR mr1
  have o9 := ob_0 h
  replace e1 : evm (d + 20) 52 [aR (11, 0, 0)] (I, M, R, G) = some (.inl (some (aI (N (vn B.1)))), (I1, M, R, G)) := e1
  replace e2 : evm (d + 20) 309 [aR (12, 0, 0)] (I1, M, R, G) = some (.inl (some (aI (N (vn B.1)))), (I2, M, R, G)) := e2
  exact ⟨_, _, _, _, fin_p h f1.fa f2 g1 g2 ⟨o9.1, o9.2.1, fun b hb => by cases hb; exact o9.1⟩, lc49 e1 e2⟩
theorem call50 (h : lawI t xs (I, M, R, G) B hs sn) (hi : i + 4 ≤ L) (hL : L ≤ 2048) (ht : t < 1000) : goC d L i 2755 t xs (I, M, R, G) := by
  have hR : RF R := h.1.1
  have hC : CR I B hs sn := h.1.2.1
  have hM : MR I B hs sn := h.1.2.2
  have hB : BA I 0 B := hC.1
  have hV : BV I 0 B.1 := hB.1
  have hMV : MV I B.1 := hM.1.mv
  have hO : OB t B := h.2.1.1
  have hW : WV B.1 := hO.1
  have hx : xsS (I, M, R, G) = xs := h.2.2.2.2.2.2
  cases sn with
  | none =>
    have c1 : evm (d + 19) 212 [aR (11, 0, 0)] (I, M, R, G) = Ex 1 (I, M, R, G) := CR.restore_no (d := d + 18) hR hC
    have c2 : evm (d + 20) 310 [aR (12, 0, 0)] (I, M, R, bG G) = some (.inl (some (aI (0))), ((thr I 1), M, R, bG G)) := MR.restore_no (d := d + 18) hR hM
    have e1 : evm (d + 20) 211 [aR (11, 0, 0), aR (42, 0, 0)] (I, M, R, G) = some (.inl (some (aI 1)), (I, M, R, bG G)) := w211_x1 c1
    have e2 : evm (d + 20) 310 [aR (12, 0, 0)] (I, M, R, bG G) = some (.inl (some (aI 0)), ((thr I 1), M, R, bG G)) := c2
    exact ⟨((thr I 1), M, R, bG G), _, _, _, rd_x h, lc50 (S1 := (I, M, R, bG G)) hi hL hx hx e1 e2 (thr_e thr_at) (fun q => absurd q (by decide))⟩
  | some s =>
    obtain ⟨I1, c1, g1, f1⟩ := CR.restore (d := d + 16) (M := M) (G := G) hR hC
    have mr1 : MR I1 B hs (some s) := mr_a hM f1.fa
    obtain ⟨I2, c2, g7, g2, f2⟩ := MR.restore (d := d + 18) (M := setV M (42, 0, 0) 0 (aL (N (vn s.1)).toInt64)) (G := G) hR mr1
    have o9 := ob_0 h
    have e1 : evm (d + 20) 211 [aR (11, 0, 0), aR (42, 0, 0)] (I, M, R, G) = some (.inl (some (aI 0)), (I1, setV M (42, 0, 0) 0 (aL (N (vn s.1)).toInt64), R, G)) := w211_v c1
    have e2 : evm (d + 20) 310 [aR (12, 0, 0)] (I1, setV M (42, 0, 0) 0 (aL (N (vn s.1)).toInt64), R, G) = some (.inl (some (aI (N (vn s.1)))), (I2, setV M (42, 0, 0) 0 (aL (N (vn s.1)).toInt64), R, G)) := c2
    exact ⟨(I2, setV M (42, 0, 0) 0 (aL (N (vn s.1)).toInt64), R, G), _, _, _, fin_v h f1.fa f2 g1 g2 ⟨o9.2.2 s rfl, fun b9 hb9 => absurd hb9 List.not_mem_nil, o9.2.2⟩, lc50 (S1 := (I1, setV M (42, 0, 0) 0 (aL (N (vn s.1)).toInt64), R, G)) hi hL hx hx e1 e2 (thr_e g7) (fun _ => out_v)⟩
end CALLS
