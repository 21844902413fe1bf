/-! THE METHODS' MEANING: the law's calls, plans carried out (genC2.py) -/
section CALLS
variable {d i L t : Nat} {xs : Nat → Int32} {I : OId → Nat → Int32} {M R : OId → Nat → AV} {G : SG} {B : Bk} {hs : List Bk} {sn : Option Bk}
theorem call4 (h : lawI t xs (I, M, R, G) B hs sn) (hi : i + 4 ≤ L) (hL : L ≤ 2048) (ht : t < 1000) : goC d L i 383 t xs (I, M, R, G) := by
  have hR : RF R := h.1.1
  have hC : CR I B hs sn := h.1.2.1
  have hM : MR I B hs sn := h.1.2.2
  have hB : BA I 0 B := hC.1
  have hV : BV I 0 B.1 := hB.1
  have hMV : MV I B.1 := hM.1.mv
  have hO : OB t B := h.2.1.1
  have hW : WV B.1 := hO.1
  have hx : xsS (I, M, R, G) = xs := h.2.2.2.2.2.2
  by_cases hp : (rg (xs (i + 1)) 0 99 ∧ rg (xs (i + 2)) 0 99) ∧ rg (xs (i + 3)) 1 365
  · by_cases hv : vn B.1 < 7
    · cases hq : planF (((xs (i + 1)), (xs (i + 2))), none, none, none) B.1 with
      | some r =>
        obtain ⟨x0, x1, x2⟩ := rg_N (b := 99) (by decide) hp.1.1
        obtain ⟨y0, y1, y2⟩ := rg_N (b := 99) (by decide) hp.1.2
        obtain ⟨e0, e1', e2'⟩ := day_N (b := 365) hO (by decide) hp.2
        obtain ⟨r1, r2, r3⟩ := plan_ok hq
        have hA : OB (t + 1) (addB B (N x0) (N y0) (N 0) (N e0) true) := hO.add hv (by omega) (by omega) (by omega) e1' (by omega)
        have hij : ∀ c, inj (addB B (xs (i + 1)) (xs (i + 2)) c (bday B + (xs (i + 3))) true).1 := fun c a b ha hb q => hA.1.2.2.2.2 a b ha hb q
        have hmv : OB t (mvB B r.1) := hO.mv r.1 B r3
        have hvm : vn (mvB B r.1).1 < 7 := by rw [mvB_n]; exact hv
        have hW9 : WV (addB (mvB B r.1) (xs (i + 1)) (xs (i + 2)) (N r.2) (bday B + (xs (i + 3))) true).1 := by
          rw [e2', x2, y2]
          exact (hmv.add hvm (by omega) (by omega) r2 e1' (by omega)).1
        obtain ⟨I1, p, c1, hpr, g1, f1⟩ := CR.license (d := d + 8) (M := M) (G := G) hR hC hW hp.1 hp.2 hv hq hij
        have mr1 : MR I1 B hs sn := mr_a hM f1
        obtain ⟨I2, c2, g7, g2, f2⟩ := MR.license (d := d + 9) (M := setV M (42, 0, 0) 0 (aL (bnext B).toInt64)) (G := G) hR mr1 hp.1 hp.2 hv hq hpr hW9
        have ob : OB (t + 1) (etL (vn B.1 + 1) (addB (planB (mvB B r.1) (N r.1.length) p) (xs (i + 1)) (xs (i + 2)) (N r.2) (bday B + (xs (i + 3))) true)) := by
          refine OB.etl _ _ ?_ ?_
          · rw [e2', x2, y2]
            exact (hmv.plan r1).add hvm (by omega) (by omega) r2 e1' (by omega)
          · show vn B.1 + 1 ≤ vn (mvB B r.1).1 + 1
            rw [mvB_n]
            exact Nat.le_refl _
        have e1 : evm (d + 20) 61 [aR (11, 0, 0), aI (xs (i + 1)), aI (xs (i + 2)), aI (xs (i + 3)), aR (42, 0, 0)] (I, M, R, G) = some (.inl (some (aI 0)), (I1, setV M (42, 0, 0) 0 (aL (bnext B).toInt64), R, G)) := w61_v c1
        have e2 : evm (d + 20) 223 [aR (12, 0, 0), aI (xs (i + 1)), aI (xs (i + 2)), aI (xs (i + 3))] (I1, setV M (42, 0, 0) 0 (aL (bnext B).toInt64), R, G) = some (.inl (some (aI (bnext B))), (I2, setV M (42, 0, 0) 0 (aL (bnext B).toInt64), R, G)) := c2
        exact ⟨(I2, setV M (42, 0, 0) 0 (aL (bnext B).toInt64), R, G), _, _, _, fin_v h f1 f2 g1 g2 (ob_k h ob), lc4 (S1 := (I1, setV M (42, 0, 0) 0 (aL (bnext B).toInt64), R, G)) hi hL hx hx e1 e2 (thr_e g7) (fun _ => out_v)⟩
      | none =>
        obtain ⟨I1, c1, f1⟩ := CR.license_no2 (d := d + 8) (M := M) (G := G) hR hC hW hp.1 hp.2 hv hq
        have mr1 : MR I1 B hs sn := mr_a hM f1.fa
        obtain ⟨I2, c2, f2⟩ := MR.license_no3 (d := d + 9) (M := M) (G := bG G) hR mr1 hp.1 hp.2 hv hq
        have e1 : evm (d + 20) 61 [aR (11, 0, 0), aI (xs (i + 1)), aI (xs (i + 2)), aI (xs (i + 3)), aR (42, 0, 0)] (I, M, R, G) = some (.inl (some (aI 3)), (I1, M, R, bG G)) := w61_x2 c1
        have e2 : evm (d + 20) 223 [aR (12, 0, 0), aI (xs (i + 1)), aI (xs (i + 2)), aI (xs (i + 3))] (I1, M, R, bG G) = some (.inl (some (aI 0)), ((thr I2 3), M, R, bG G)) := c2
        exact ⟨((thr I2 3), M, R, bG G), _, _, _, fin_x h f1.fa ((thr_fm.tr f2.fm).tr thr_fm) (hC.srch f1) (mr1.th.pf f2).th (ob_0 h), lc4 (S1 := (I1, M, R, bG G)) hi hL hx hx e1 e2 (thr_e thr_at) (fun q => absurd q (by decide))⟩
    · have c1 : evm (d + 19) 62 [aR (11, 0, 0), aI (xs (i + 1)), aI (xs (i + 2)), aI (xs (i + 3))] (I, M, R, G) = Ex 1 (I, M, R, G) := CR.license_no1 (d := d + 8) hR hC hp.1 hp.2 hv
      have c2 : evm (d + 20) 223 [aR (12, 0, 0), aI (xs (i + 1)), aI (xs (i + 2)), aI (xs (i + 3))] (I, M, R, bG G) = some (.inl (some (aI (0))), ((thr I 2), M, R, bG G)) := MR.license_no2 (d := d + 9) hR hM hp.1 hp.2 hv
      have e1 : evm (d + 20) 61 [aR (11, 0, 0), aI (xs (i + 1)), aI (xs (i + 2)), aI (xs (i + 3)), aR (42, 0, 0)] (I, M, R, G) = some (.inl (some (aI 2)), (I, M, R, bG G)) := w61_x1 c1
      have e2 : evm (d + 20) 223 [aR (12, 0, 0), aI (xs (i + 1)), aI (xs (i + 2)), aI (xs (i + 3))] (I, M, R, bG G) = some (.inl (some (aI 0)), ((thr I 2), M, R, bG G)) := c2
      exact ⟨((thr I 2), M, R, bG G), _, _, _, rd_x h, lc4 (S1 := (I, M, R, bG G)) hi hL hx hx e1 e2 (thr_e thr_at) (fun q => absurd q (by decide))⟩
  · have c1 : evm (d + 19) 62 [aR (11, 0, 0), aI (xs (i + 1)), aI (xs (i + 2)), aI (xs (i + 3))] (I, M, R, G) = Ex 0 (I, M, R, G) := license_no0 (d := d + 8) hp
    have c2 : evm (d + 20) 223 [aR (12, 0, 0), aI (xs (i + 1)), aI (xs (i + 2)), aI (xs (i + 3))] (I, M, R, bG G) = some (.inl (some (aI (0))), ((thr I 1), M, R, bG G)) := licenseM_no1 (d := d + 9) hp
    have e1 : evm (d + 20) 61 [aR (11, 0, 0), aI (xs (i + 1)), aI (xs (i + 2)), aI (xs (i + 3)), aR (42, 0, 0)] (I, M, R, G) = some (.inl (some (aI 1)), (I, M, R, bG G)) := w61_x0 c1
    have e2 : evm (d + 20) 223 [aR (12, 0, 0), aI (xs (i + 1)), aI (xs (i + 2)), aI (xs (i + 3))] (I, M, R, bG G) = some (.inl (some (aI 0)), ((thr I 1), M, R, bG G)) := c2
    exact ⟨((thr I 1), M, R, bG G), _, _, _, rd_x h, lc4 (S1 := (I, M, R, bG G)) hi hL hx hx e1 e2 (thr_e thr_at) (fun q => absurd q (by decide))⟩
theorem call37 (h : lawI t xs (I, M, R, G) B hs sn) (hi : i + 4 ≤ L) (hL : L ≤ 2048) (ht : t < 1000) : goC d L i 2199 t xs (I, M, R, G) := by
  have hR : RF R := h.1.1
  have hC : CR I B hs sn := h.1.2.1
  have hM : MR I B hs sn := h.1.2.2
  have hB : BA I 0 B := hC.1
  have hV : BV I 0 B.1 := hB.1
  have hMV : MV I B.1 := hM.1.mv
  have hO : OB t B := h.2.1.1
  have hW : WV B.1 := hO.1
  have hx : xsS (I, M, R, G) = xs := h.2.2.2.2.2.2
  by_cases hw : wcT B.1 (xs (i + 1)) (xs (i + 2)) = 0
  · obtain ⟨w, w1, w2⟩ := rg_N (b := 7) (by decide) (wcT_0 hw).2.1
    have hf := (wcT_0 hw).1
    have hw' := hw
    rw [w2] at hw'
    cases hq : planF (qsl B.1 (fid B.1 (xs (i + 1))) (some w) none) B.1 with
    | some r =>
      obtain ⟨r1, r2, r3⟩ := plan_ok hq
      have hmv : OB t (mvB B r.1) := hO.mv r.1 B r3
      obtain ⟨I1, p, c1', hpr, g1, f1⟩ := CR.change (d := d + 8) (M := M) (G := G) hR hC hW (by omega) hw' hq
      have mr1 : MR I1 B hs sn := mr_a hM f1
      obtain ⟨I2, c2', g7, g2, f2⟩ := MR.change (d := d + 8) (M := setV M (42, 0, 0) 0 (aL (N r.1.length).toInt64)) (G := G) hR mr1 (by omega) hw' hq hpr (hmv.ch r2).1
      have ob : OB (t + 1) (etL (vn B.1) (planB (fdB (mvB B r.1) (fid B.1 (xs (i + 1))) 3 (N r.2)) (N r.1.length) p)) := by
        refine (OB.etl _ _ ((hmv.ch r2).plan r1) ?_).le (by omega)
        show vn B.1 ≤ vn (mvB B r.1).1
        rw [mvB_n]
        exact Nat.le_refl _
      have c1 : evm (d + 19) 155 [aR (11, 0, 0), aI (xs (i + 1)), aI (xs (i + 2))] (I, M, R, G) = some (.inl (some (aI (N r.1.length))), (I1, M, R, G)) := by
        rw [w2]
        exact c1'
      have c2 : evm (d + 20) 291 [aR (12, 0, 0), aI (xs (i + 1)), aI (xs (i + 2))] (I1, setV M (42, 0, 0) 0 (aL (N r.1.length).toInt64), R, G) = some (.inl (some (aI (N r.1.length))), (I2, setV M (42, 0, 0) 0 (aL (N r.1.length).toInt64), R, G)) := by
        rw [w2]
        exact c2'
      have e1 : evm (d + 20) 154 [aR (11, 0, 0), aI (xs (i + 1)), aI (xs (i + 2)), aR (42, 0, 0)] (I, M, R, G) = some (.inl (some (aI 0)), (I1, setV M (42, 0, 0) 0 (aL (N r.1.length).toInt64), R, G)) := w154_v c1
      have e2 : evm (d + 20) 291 [aR (12, 0, 0), aI (xs (i + 1)), aI (xs (i + 2))] (I1, setV M (42, 0, 0) 0 (aL (N r.1.length).toInt64), R, G) = some (.inl (some (aI (N r.1.length))), (I2, setV M (42, 0, 0) 0 (aL (N r.1.length).toInt64), R, G)) := c2
      exact ⟨(I2, setV M (42, 0, 0) 0 (aL (N r.1.length).toInt64), R, G), _, _, _, fin_v h f1 f2 g1 g2 (ob_k h ob), lc37 (S1 := (I1, setV M (42, 0, 0) 0 (aL (N r.1.length).toInt64), R, G)) hi hL hx hx e1 e2 (thr_e g7) (fun _ => out_v)⟩
    | none =>
      obtain ⟨I1, c1', f1⟩ := CR.change_no2 (d := d + 8) (M := M) (G := G) hR hC hW (by omega) hw' hq
      have mr1 : MR I1 B hs sn := mr_a hM f1.fa
      obtain ⟨I2, c2', f2⟩ := MR.change_no4 (d := d + 8) (M := M) (G := bG G) hR mr1 (by omega) hw' hq
      have c1 : evm (d + 19) 155 [aR (11, 0, 0), aI (xs (i + 1)), aI (xs (i + 2))] (I, M, R, G) = Ex 2 (I1, M, R, G) := by
        rw [w2]
        exact c1'
      have c2 : evm (d + 20) 291 [aR (12, 0, 0), aI (xs (i + 1)), aI (xs (i + 2))] (I1, M, R, bG G) = some (.inl (some (aI (0))), ((thr I2 4), M, R, bG G)) := by
        rw [w2]
        exact c2'
      have e1 : evm (d + 20) 154 [aR (11, 0, 0), aI (xs (i + 1)), aI (xs (i + 2)), aR (42, 0, 0)] (I, M, R, G) = some (.inl (some (aI 4)), (I1, M, R, bG G)) := w154_x2 c1
      have e2 : evm (d + 20) 291 [aR (12, 0, 0), aI (xs (i + 1)), aI (xs (i + 2))] (I1, M, R, bG G) = some (.inl (some (aI 0)), ((thr I2 4), M, R, bG G)) := c2
      exact ⟨((thr I2 4), M, R, bG G), _, _, _, fin_x h f1.fa ((thr_fm.tr f2.fm).tr thr_fm) (hC.srch f1) (mr1.th.pf f2).th (ob_0 h), lc37 (S1 := (I1, M, R, bG G)) hi hL hx hx e1 e2 (thr_e thr_at) (fun q => absurd q (by decide))⟩
  · by_cases hf : fid B.1 (xs (i + 1)) < vn B.1
    · by_cases hr : rg (xs (i + 2)) 0 7
      · obtain ⟨wT, wE⟩ := wc_3 hw hf hr
        have c1 : evm (d + 19) 155 [aR (11, 0, 0), aI (xs (i + 1)), aI (xs (i + 2))] (I, M, R, G) = Ex 1 (I, M, R, G) := by
          have h9 := CR.change_no (d := d + 8) (M := M) (G := G) hR hC hw
          rw [wE] at h9
          exact h9
        have c2 : evm (d + 20) 291 [aR (12, 0, 0), aI (xs (i + 1)), aI (xs (i + 2))] (I, M, R, bG G) = some (.inl (some (aI (0))), ((thr I 3), M, R, bG G)) := by
          have h9 := MR.change_no (d := d + 8) (M := M) (G := bG G) hR hM hw
          rw [wT] at h9
          exact h9
        have e1 : evm (d + 20) 154 [aR (11, 0, 0), aI (xs (i + 1)), aI (xs (i + 2)), aR (42, 0, 0)] (I, M, R, G) = some (.inl (some (aI 3)), (I, M, R, bG G)) := w154_x1 c1
        have e2 : evm (d + 20) 291 [aR (12, 0, 0), aI (xs (i + 1)), aI (xs (i + 2))] (I, M, R, bG G) = some (.inl (some (aI 0)), ((thr I 3), M, R, bG G)) := c2
        exact ⟨((thr I 3), M, R, bG G), _, _, _, rd_x h, lc37 (S1 := (I, M, R, bG G)) hi hL hx hx e1 e2 (thr_e thr_at) (fun q => absurd q (by decide))⟩
      · obtain ⟨wT, wE⟩ := wc_2 (c := (xs (i + 2))) hf hr
        have c1 : evm (d + 19) 155 [aR (11, 0, 0), aI (xs (i + 1)), aI (xs (i + 2))] (I, M, R, G) = Ex 0 (I, M, R, G) := by
          have h9 := CR.change_no (d := d + 8) (M := M) (G := G) hR hC hw
          rw [wE] at h9
          exact h9
        have c2 : evm (d + 20) 291 [aR (12, 0, 0), aI (xs (i + 1)), aI (xs (i + 2))] (I, M, R, bG G) = some (.inl (some (aI (0))), ((thr I 2), M, R, bG G)) := by
          have h9 := MR.change_no (d := d + 8) (M := M) (G := bG G) hR hM hw
          rw [wT] at h9
          exact h9
        have e1 : evm (d + 20) 154 [aR (11, 0, 0), aI (xs (i + 1)), aI (xs (i + 2)), aR (42, 0, 0)] (I, M, R, G) = some (.inl (some (aI 2)), (I, M, R, bG G)) := w154_x0 c1
        have e2 : evm (d + 20) 291 [aR (12, 0, 0), aI (xs (i + 1)), aI (xs (i + 2))] (I, M, R, bG G) = some (.inl (some (aI 0)), ((thr I 2), M, R, bG G)) := c2
        exact ⟨((thr I 2), M, R, bG G), _, _, _, rd_x h, lc37 (S1 := (I, M, R, bG G)) hi hL hx hx e1 e2 (thr_e thr_at) (fun q => absurd q (by decide))⟩
    · obtain ⟨wT, wE⟩ := wc_1 (c := (xs (i + 2))) hf
      have c1 : evm (d + 19) 155 [aR (11, 0, 0), aI (xs (i + 1)), aI (xs (i + 2))] (I, M, R, G) = Ex 3 (I, M, R, G) := by
        have h9 := CR.change_no (d := d + 8) (M := M) (G := G) hR hC hw
        rw [wE] at h9
        exact h9
      have c2 : evm (d + 20) 291 [aR (12, 0, 0), aI (xs (i + 1)), aI (xs (i + 2))] (I, M, R, bG G) = some (.inl (some (aI (0))), ((thr I 1), M, R, bG G)) := by
        have h9 := MR.change_no (d := d + 8) (M := M) (G := bG G) hR hM hw
        rw [wT] at h9
        exact h9
      have e1 : evm (d + 20) 154 [aR (11, 0, 0), aI (xs (i + 1)), aI (xs (i + 2)), aR (42, 0, 0)] (I, M, R, G) = some (.inl (some (aI 1)), (I, M, R, bG G)) := w154_x3 c1
      have e2 : evm (d + 20) 291 [aR (12, 0, 0), aI (xs (i + 1)), aI (xs (i + 2))] (I, M, R, bG G) = some (.inl (some (aI 0)), ((thr I 1), M, R, bG G)) := c2
      exact ⟨((thr I 1), M, R, bG G), _, _, _, rd_x h, lc37 (S1 := (I, M, R, bG G)) hi hL hx hx e1 e2 (thr_e thr_at) (fun q => absurd q (by decide))⟩
theorem call38 (h : lawI t xs (I, M, R, G) B hs sn) (hi : i + 4 ≤ L) (hL : L ≤ 2048) (ht : t < 1000) : goC d L i 2267 t xs (I, M, R, G) := by
  have hR : RF R := h.1.1
  have hC : CR I B hs sn := h.1.2.1
  have hM : MR I B hs sn := h.1.2.2
  have hB : BA I 0 B := hC.1
  have hV : BV I 0 B.1 := hB.1
  have hMV : MV I B.1 := hM.1.mv
  have hO : OB t B := h.2.1.1
  have hW : WV B.1 := hO.1
  have hx : xsS (I, M, R, G) = xs := h.2.2.2.2.2.2
  by_cases h1 : prT B.1 (xs (i + 1)) (xs (i + 2)) = 0
  · obtain ⟨p1, p2, p3⟩ := prT_0 h1
    by_cases h2 : cplT B.1 (fid B.1 (xs (i + 1))) (fid B.1 (xs (i + 2)))
    · obtain ⟨⟨u, u1, u2⟩, -⟩ := hW.2.2.2.1 _ _ p1 p2
      have u3 : u + 1 ≤ 2 := by
        have h9 : u ≠ 2 := fun q => h2.2.2.2 (by rw [u2, q]; rfl)
        omega
      have hcm : OB t (cmpB B (fid B.1 (xs (i + 1))) (fid B.1 (xs (i + 2))) (vc B.1 (fid B.1 (xs (i + 1))) (fid B.1 (xs (i + 2))) + 1)) := by
        rw [u2, N_1]
        exact hO.cmp u3
      by_cases h3 : cplC B.1 (fid B.1 (xs (i + 1))) (fid B.1 (xs (i + 2)))
      · cases hq : planF (qsl (cmpB B (fid B.1 (xs (i + 1))) (fid B.1 (xs (i + 2))) (vc B.1 (fid B.1 (xs (i + 1))) (fid B.1 (xs (i + 2))) + 1)).1 (fid B.1 (xs (i + 2))) none (some (fid B.1 (xs (i + 1))))) (cmpB B (fid B.1 (xs (i + 1))) (fid B.1 (xs (i + 2))) (vc B.1 (fid B.1 (xs (i + 1))) (fid B.1 (xs (i + 2))) + 1)).1 with
        | some r =>
          obtain ⟨r1, r2, r3⟩ := plan_ok hq
          have hmv : OB t (mvB (cmpB B (fid B.1 (xs (i + 1))) (fid B.1 (xs (i + 2))) (vc B.1 (fid B.1 (xs (i + 1))) (fid B.1 (xs (i + 2))) + 1)) r.1) := OB.mv r.1 _ hcm r3
          obtain ⟨I1, p, c1, hpr, g1, f1⟩ := CR.complain_plan (d := d + 8) (M := M) (G := G) hR hC hW hcm.1 h1 h2 h3 rfl hq
          have mr1 : MR I1 B hs sn := mr_a hM f1
          obtain ⟨I2, c2, g7, g2, f2⟩ := MR.complain_plan (d := d + 8) (M := setV M (42, 0, 0) 0 (aL (N (r.1.length + 1)).toInt64)) (G := G) hR mr1 hW h1 h2 h3 rfl hq hpr (hmv.ch r2).1
          have ob : OB (t + 1) (etL (vn B.1) (planB (fdB (mvB (cmpB B (fid B.1 (xs (i + 1))) (fid B.1 (xs (i + 2))) (vc B.1 (fid B.1 (xs (i + 1))) (fid B.1 (xs (i + 2))) + 1)) r.1) (fid B.1 (xs (i + 2))) 3 (N r.2)) (N r.1.length) p)) := by
            refine (OB.etl _ _ ((hmv.ch r2).plan r1) ?_).le (by omega)
            show vn B.1 ≤ vn (mvB (cmpB B (fid B.1 (xs (i + 1))) (fid B.1 (xs (i + 2))) (vc B.1 (fid B.1 (xs (i + 1))) (fid B.1 (xs (i + 2))) + 1)) r.1).1
            rw [mvB_n]
            exact Nat.le_refl _
          have e1 : evm (d + 20) 156 [aR (11, 0, 0), aI (xs (i + 1)), aI (xs (i + 2)), aR (42, 0, 0)] (I, M, R, G) = some (.inl (some (aI 0)), (I1, setV M (42, 0, 0) 0 (aL (N (r.1.length + 1)).toInt64), R, G)) := w156_v c1
          have e2 : evm (d + 20) 293 [aR (12, 0, 0), aI (xs (i + 1)), aI (xs (i + 2))] (I1, setV M (42, 0, 0) 0 (aL (N (r.1.length + 1)).toInt64), R, G) = some (.inl (some (aI (N (r.1.length + 1)))), (I2, setV M (42, 0, 0) 0 (aL (N (r.1.length + 1)).toInt64), R, G)) := c2
          exact ⟨(I2, setV M (42, 0, 0) 0 (aL (N (r.1.length + 1)).toInt64), R, G), _, _, _, fin_v h f1 f2 g1 g2 (ob_k h ob), lc38 (S1 := (I1, setV M (42, 0, 0) 0 (aL (N (r.1.length + 1)).toInt64), R, G)) hi hL hx hx e1 e2 (thr_e g7) (fun _ => out_v)⟩
        | none =>
          obtain ⟨I1, c1, f1⟩ := CR.complain_no2 (d := d + 8) (M := M) (G := G) hR hC hW hcm.1 h1 h2 h3 rfl hq
          have mr1 : MR I1 B hs sn := mr_a hM f1.fa
          obtain ⟨I2, c2, g7, g2, f2⟩ := MR.complain_no4 (d := d + 8) (M := M) (G := bG G) hR mr1 hW h1 h2 h3 rfl hq
          have e1 : evm (d + 20) 156 [aR (11, 0, 0), aI (xs (i + 1)), aI (xs (i + 2)), aR (42, 0, 0)] (I, M, R, G) = some (.inl (some (aI 4)), (I1, M, R, bG G)) := w156_x2 c1
          have e2 : evm (d + 20) 293 [aR (12, 0, 0), aI (xs (i + 1)), aI (xs (i + 2))] (I1, M, R, bG G) = some (.inl (some (aI 0)), (I2, M, R, bG G)) := c2
          exact ⟨(I2, M, R, bG G), _, _, _, fin_x h f1.fa f2 (hC.srch f1) g2 (ob_0 h), lc38 (S1 := (I1, M, R, bG G)) hi hL hx hx e1 e2 (thr_e g7) (fun q => absurd q (by decide))⟩
      · obtain ⟨I1, c1, g1, f1⟩ := CR.complain_free (d := d + 8) (M := M) (G := G) hR hC hW h1 h2 h3
        have mr1 : MR I1 B hs sn := mr_a hM f1
        obtain ⟨I2, c2, g7, g2, f2⟩ := MR.complain_free (d := d + 8) (M := setV M (42, 0, 0) 0 (aL (0 : Int32).toInt64)) (G := G) hR mr1 hW h1 h2 h3
        have ob : OB (t + 1) (cmpB B (fid B.1 (xs (i + 1))) (fid B.1 (xs (i + 2))) (vc B.1 (fid B.1 (xs (i + 1))) (fid B.1 (xs (i + 2))) + 1)) := hcm.le (by omega)
        have e1 : evm (d + 20) 156 [aR (11, 0, 0), aI (xs (i + 1)), aI (xs (i + 2)), aR (42, 0, 0)] (I, M, R, G) = some (.inl (some (aI 0)), (I1, setV M (42, 0, 0) 0 (aL ((0 : Int32)).toInt64), R, G)) := w156_v c1
        have e2 : evm (d + 20) 293 [aR (12, 0, 0), aI (xs (i + 1)), aI (xs (i + 2))] (I1, setV M (42, 0, 0) 0 (aL ((0 : Int32)).toInt64), R, G) = some (.inl (some (aI ((0 : Int32)))), (I2, setV M (42, 0, 0) 0 (aL ((0 : Int32)).toInt64), R, G)) := c2
        exact ⟨(I2, setV M (42, 0, 0) 0 (aL ((0 : Int32)).toInt64), R, G), _, _, _, fin_v h f1 f2 g1 g2 (ob_k h ob), lc38 (S1 := (I1, setV M (42, 0, 0) 0 (aL ((0 : Int32)).toInt64), R, G)) hi hL hx hx e1 e2 (thr_e g7) (fun _ => out_v)⟩
    · have c1 : evm (d + 19) 157 [aR (11, 0, 0), aI (xs (i + 1)), aI (xs (i + 2))] (I, M, R, G) = Ex 1 (I, M, R, G) := CR.complain_no1 (d := d + 8) hR hC h1 h2
      have c2 : evm (d + 20) 293 [aR (12, 0, 0), aI (xs (i + 1)), aI (xs (i + 2))] (I, M, R, bG G) = some (.inl (some (aI (0))), ((thr I 3), M, R, bG G)) := MR.complain_no3 (d := d + 8) hR hM h1 h2
      have e1 : evm (d + 20) 156 [aR (11, 0, 0), aI (xs (i + 1)), aI (xs (i + 2)), aR (42, 0, 0)] (I, M, R, G) = some (.inl (some (aI 3)), (I, M, R, bG G)) := w156_x1 c1
      have e2 : evm (d + 20) 293 [aR (12, 0, 0), aI (xs (i + 1)), aI (xs (i + 2))] (I, M, R, bG G) = some (.inl (some (aI 0)), ((thr I 3), M, R, bG G)) := c2
      exact ⟨((thr I 3), M, R, bG G), _, _, _, rd_x h, lc38 (S1 := (I, M, R, bG G)) hi hL hx hx e1 e2 (thr_e thr_at) (fun q => absurd q (by decide))⟩
  · rcases prT_12 h1 with hp | hp
    · have c1 : evm (d + 19) 157 [aR (11, 0, 0), aI (xs (i + 1)), aI (xs (i + 2))] (I, M, R, G) = Ex 3 (I, M, R, G) := by
        have h9 := CR.complain_no (d := d + 8) (M := M) (G := G) hR hC h1
        rw [hp, if_pos rfl] at h9
        exact h9
      have c2 : evm (d + 20) 293 [aR (12, 0, 0), aI (xs (i + 1)), aI (xs (i + 2))] (I, M, R, bG G) = some (.inl (some (aI (0))), ((thr I 1), M, R, bG G)) := by
        have h9 := MR.complain_no (d := d + 8) (M := M) (G := bG G) hR hM h1
        rw [hp] at h9
        exact h9
      have e1 : evm (d + 20) 156 [aR (11, 0, 0), aI (xs (i + 1)), aI (xs (i + 2)), aR (42, 0, 0)] (I, M, R, G) = some (.inl (some (aI 1)), (I, M, R, bG G)) := w156_x3 c1
      have e2 : evm (d + 20) 293 [aR (12, 0, 0), aI (xs (i + 1)), aI (xs (i + 2))] (I, M, R, bG G) = some (.inl (some (aI 0)), ((thr I 1), M, R, bG G)) := c2
      exact ⟨((thr I 1), M, R, bG G), _, _, _, rd_x h, lc38 (S1 := (I, M, R, bG G)) hi hL hx hx e1 e2 (thr_e thr_at) (fun q => absurd q (by decide))⟩
    · have c1 : evm (d + 19) 157 [aR (11, 0, 0), aI (xs (i + 1)), aI (xs (i + 2))] (I, M, R, G) = Ex 0 (I, M, R, G) := by
        have h9 := CR.complain_no (d := d + 8) (M := M) (G := G) hR hC h1
        rw [hp, if_neg (by decide)] at h9
        exact h9
      have c2 : evm (d + 20) 293 [aR (12, 0, 0), aI (xs (i + 1)), aI (xs (i + 2))] (I, M, R, bG G) = some (.inl (some (aI (0))), ((thr I 2), M, R, bG G)) := by
        have h9 := MR.complain_no (d := d + 8) (M := M) (G := bG G) hR hM h1
        rw [hp] at h9
        exact h9
      have e1 : evm (d + 20) 156 [aR (11, 0, 0), aI (xs (i + 1)), aI (xs (i + 2)), aR (42, 0, 0)] (I, M, R, G) = some (.inl (some (aI 2)), (I, M, R, bG G)) := w156_x0 c1
      have e2 : evm (d + 20) 293 [aR (12, 0, 0), aI (xs (i + 1)), aI (xs (i + 2))] (I, M, R, bG G) = some (.inl (some (aI 0)), ((thr I 2), M, R, bG G)) := c2
      exact ⟨((thr I 2), M, R, bG G), _, _, _, rd_x h, lc38 (S1 := (I, M, R, bG G)) hi hL hx hx e1 e2 (thr_e thr_at) (fun q => absurd q (by decide))⟩
theorem call43 (h : lawI t xs (I, M, R, G) B hs sn) (hi : i + 4 ≤ L) (hL : L ≤ 2048) (ht : t < 1000) : goC d L i 2547 t xs (I, M, R, G) := by
  have hR : RF R := h.1.1
  have hC : CR I B hs sn := h.1.2.1
  have hM : MR I B hs sn := h.1.2.2
  have hB : BA I 0 B := hC.1
  have hV : BV I 0 B.1 := hB.1
  have hMV : MV I B.1 := hM.1.mv
  have hO : OB t B := h.2.1.1
  have hW : WV B.1 := hO.1
  have hx : xsS (I, M, R, G) = xs := h.2.2.2.2.2.2
  obtain ⟨I1, M1, k, e1, s1, z1, v1, f1⟩ := CR.leastSpan (d := d + 6) (G := G) hR hC hW h.2.2.1
  have mr1 : MR I1 B hs sn := mr_a hM f1.fa
  obtain ⟨I2, k', e2, s2, f2⟩ := leastSpanM_ok (d := d + 5) (M := M1) (G := G) hR hW mr1.1.mv
  have hk : k' = k := ILS_u s2 s1
  subst hk
  have fm : FM I1 I2 := fun o ho => by
    rw [f2 o (by rintro rfl; exact ho (Or.inr ⟨by decide, by decide⟩))]
    exact thr_fm o ho
  have g2 : MR I2 B hs sn := by
    have g12 : I2 (12, 0, 0) = thr I1 0 (12, 0, 0) := f2 _ (by simp)
    refine (mr1.th (x := 0)).fr (f2 _ (by simp)) (f2 _ (by simp)) (f2 _ (by simp)) (by rw [g12]) (by rw [g12])
  replace e1 : evm (d + 20) 32 [aR (11, 0, 0)] (I, M, R, G) = some (.inl (some (aI (N k'))), (I1, M1, R, G)) := e1
  replace e2 : evm (d + 20) 299 [aR (12, 0, 0)] (I1, M1, R, G) = some (.inl (some (aI (N k'))), (I2, M1, R, G)) := e2
  exact ⟨_, _, _, _, h.step (fz_am f1.fa fm) (fun o a b e => v1 o e) z1 ge_r (cr_m (hC.srch f1) fm) g2 (ob_0 h), lc43 e1 e2⟩
theorem call44 (h : lawI t xs (I, M, R, G) B hs sn) (hi : i + 4 ≤ L) (hL : L ≤ 2048) (ht : t < 1000) : goC d L i 2560 t xs (I, M, R, G) := by
  have hR : RF R := h.1.1
  have hC : CR I B hs sn := h.1.2.1
  have hM : MR I B hs sn := h.1.2.2
  have hB : BA I 0 B := hC.1
  have hV : BV I 0 B.1 := hB.1
  have hMV : MV I B.1 := hM.1.mv
  have hO : OB t B := h.2.1.1
  have hW : WV B.1 := hO.1
  have hx : xsS (I, M, R, G) = xs := h.2.2.2.2.2.2
  obtain ⟨I1, M1, k, e1, s1, z1, v1, f1⟩ := CR.leastSpanByOrders (d := d + 7) (G := G) hR hC hW h.2.2.1
  have mr1 : MR I1 B hs sn := mr_a hM f1.fa
  obtain ⟨I2, k', e2, s2, f2⟩ := leastSpanOM_ok (d := d + 4) (M := M1) (G := G) hR hW mr1.1.mv
  have hk : k' = k := ILS_u s2 s1
  subst hk
  have fm : FM I1 I2 := fun o ho => by
    rw [f2 o (by rintro rfl; exact ho (Or.inr ⟨by decide, by decide⟩))]
    exact thr_fm o ho
  have g2 : MR I2 B hs sn := by
    have g12 : I2 (12, 0, 0) = thr I1 0 (12, 0, 0) := f2 _ (by simp)
    refine (mr1.th (x := 0)).fr (f2 _ (by simp)) (f2 _ (by simp)) (f2 _ (by simp)) (by rw [g12]) (by rw [g12])
  replace e1 : evm (d + 20) 46 [aR (11, 0, 0)] (I, M, R, G) = some (.inl (some (aI (N k'))), (I1, M1, R, G)) := e1
  replace e2 : evm (d + 20) 301 [aR (12, 0, 0)] (I1, M1, R, G) = some (.inl (some (aI (N k'))), (I2, M1, R, G)) := e2
  exact ⟨_, _, _, _, h.step (fz_am f1.fa fm) (fun o a b e => v1 o e) z1 ge_r (cr_m (hC.srch f1) fm) g2 (ob_0 h), lc44 e1 e2⟩
end CALLS
