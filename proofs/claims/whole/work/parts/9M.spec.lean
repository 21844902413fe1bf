/-! THE METHODS' MEANING: the law's calls, text -/
theorem lineT_len {a x y c e : Nat} {l : Bool} (ha : a < 1000) (hx : x < 100) (hy : y < 100) (hc : c < 10) : (lineT a x y c e l).length ≤ 18 := by
  have la := dg_3 ha
  have lx := dg_2 hx
  have ly := dg_2 hy
  have lc := dg_1 hc
  have le := dg_len e
  unfold lineT
  simp only [List.length_append, List.length_nil, List.length_cons, sc_len]
  omega
section CALLT
variable {d i L t : Nat} {xs : Nat → Int32} {I : OId → Nat → Int32} {M R : OId → Nat → AV} {G : SG} {B : Bk} {hs : List Bk} {sn : Option Bk}
theorem call47 (h : lawI t xs (I, M, R, G) B hs sn) (hi : i + 4 ≤ L) (hL : L ≤ 2048) (ht : t < 1000) : goC d L i 2642 t xs (I, M, R, G) := by
  have hR : RF R := h.1.1
  have hx : xsS (I, M, R, G) = xs := h.2.2.2.2.2.2
  obtain ⟨k, n, q, kk, s, h1, h2, h3, h4, h5, h6, h7, h8⟩ := h.2.2.2.1
  have h3' : M (12, 0, 0) 16 = aR (0, q, 2) := h3
  by_cases hp : ¬ (xs (i + 1)) < 0 ∧ (xs (i + 1)) < N s.length
  · obtain ⟨j, j1, hj⟩ := nn_N hp.1
    have hjl : j < s.length := by
      have h9 := hp.2
      rw [hj, N_lt j1 (by omega)] at h9
      exact h9
    have c1 : evm (d + 19) 205 [aR (11, 0, 0), aI (xs (i + 1))] (I, M, R, G) = some (.inl (some (aI (N (s.getD j 0)))), (I, M, R, G)) := by
      rw [hj]
      exact lineAt_ok (d := d + 14) (S := (I, M, R, G)) hR h1 hjl
    obtain ⟨M', hM'⟩ : ∃ M' : OId → Nat → AV, M' = setV M (42, 0, 0) 0 (aL (N (s.getD j 0)).toInt64) := ⟨_, rfl⟩
    have m12 : M' (12, 0, 0) = M (12, 0, 0) := by rw [hM']; exact setV_o (by simp)
    have m0 : M' (0, q, 2) = M (0, q, 2) := by rw [hM']; exact setV_o (by simp)
    have hTM : txM (I, M', R, G) (0, q, 2) kk s := ⟨(congrFun m0 0).trans h4.1, h4.2.1, h4.2.2⟩
    have e1 : evm (d + 20) 204 [aR (11, 0, 0), aI (xs (i + 1)), aR (42, 0, 0)] (I, M, R, G) = some (.inl (some (aI 0)), (I, M', R, G)) := by
      rw [hM']
      exact w204_v c1
    have e2 : evm (d + 20) 304 [aR (12, 0, 0), aI (xs (i + 1))] (I, M', R, G) = some (.inl (some (aI (N (s.getD j 0)))), (thr I 0, M', R, G)) := by
      rw [hj]
      exact lineAtM_ok (d := d + 15) ((congrFun m12 16).trans h3') hTM h8 hjl
    have hl : lawI (t + 1) xs (thr I 0, M', R, G) B hs sn := by
      rw [hM']
      exact rd_v h
    have hv : ((thr I 0, M', R, G) : SS).2.1 (42, 0, 0) 0 = aL (N (s.getD j 0)).toInt64 := by
      rw [hM']
      exact out_v
    exact ⟨(thr I 0, M', R, G), _, _, _, hl, lc47 (S1 := (I, M', R, G)) hi hL hx hx e1 e2 (thr_e thr_at) (fun _ => hv)⟩
  · have c1 : evm (d + 19) 205 [aR (11, 0, 0), aI (xs (i + 1))] (I, M, R, G) = Ex 4 (I, M, R, G) := lineAt_no (d := d + 14) (S := (I, M, R, G)) hR h1 hp
    have hTM : txM (I, M, R, bG G) (0, q, 2) kk s := ⟨h4.1, h4.2.1, h4.2.2⟩
    have e1 : evm (d + 20) 204 [aR (11, 0, 0), aI (xs (i + 1)), aR (42, 0, 0)] (I, M, R, G) = some (.inl (some (aI 1)), (I, M, R, bG G)) := w204_x4 c1
    have e2 : evm (d + 20) 304 [aR (12, 0, 0), aI (xs (i + 1))] (I, M, R, bG G) = some (.inl (some (aI 32)), (thr I 1, M, R, bG G)) := lineAtM_no (d := d + 15) h3' hTM h8 hp
    exact ⟨(thr I 1, M, R, bG G), _, _, _, rd_x h, lc47 (S1 := (I, M, R, bG G)) hi hL hx hx e1 e2 (thr_e thr_at) (fun q => absurd q (by decide))⟩
theorem call46 (h : lawI t xs (I, M, R, G) B hs sn) (hi : i + 4 ≤ L) (hL : L ≤ 2048) (ht : t < 1000) : goC d L i 2586 t xs (I, M, R, G) := by
  have hR : RF R := h.1.1
  have hC : CR I B hs sn := h.1.2.1
  have hM : MR I B hs sn := h.1.2.2
  have hB : BA I 0 B := hC.1
  have hV : BV I 0 B.1 := hB.1
  have hMV : MV I B.1 := hM.1.mv
  have hO : OB t B := h.2.1.1
  have hW : WV B.1 := hO.1
  have hx : xsS (I, M, R, G) = xs := h.2.2.2.2.2.2
  by_cases hf : fid B.1 (xs (i + 1)) < vn B.1
  · obtain ⟨k, n, q, kk, s, h1, h2, h3, h4, h5, h6, h7, h8⟩ := h.2.2.2.1
    have hid : vf B.1 (fid B.1 (xs (i + 1))) 0 = xs (i + 1) := of_decide_eq_true (fs_yes (p := fun k => decide (vf B.1 k 0 = xs (i + 1))) hf)
    obtain ⟨z, z1, z2, z3⟩ := hO.2.1
    obtain ⟨a, a1, a2⟩ := z3 _ hf
    obtain ⟨⟨x, x1, x2⟩, ⟨y, y1, y2⟩, c, c1, c2⟩ := hW.2.2.1 _ hf
    obtain ⟨e, e1, e2⟩ := hO.2.2.2.1 _ hf
    have ha1 : xs (i + 1) = N a := hid.symm.trans a2
    have hlen := lineT_len (a := a) (x := x) (y := y) (c := c) (e := e) (l := vl B.1 (fid B.1 (xs (i + 1)))) (by omega) x1 y1 (by omega)
    obtain ⟨S', w1, q1⟩ := writeStation_ok (d := d + 10) (M := M) (G := G) (id := xs (i + 1)) hR hV rfl hf (show a < 1000 by omega) x1 y1 (show c < 10 by omega) e1 a2 x2 y2 c2 e2 h1 h2 h.2.2.2.2.1
    obtain ⟨T, hT⟩ : ∃ T, T = lineT a x y c e (vl B.1 (fid B.1 (xs (i + 1)))) := ⟨_, rfl⟩
    rw [← hT] at w1 q1 hlen
    obtain ⟨hA, k', n', hk1, hk2, hT1⟩ := id q1
    obtain ⟨M1, hM1⟩ : ∃ M1 : OId → Nat → AV, M1 = setV S'.2.1 (42, 0, 0) 0 (aL (N T.length).toInt64) := ⟨_, rfl⟩
    have m1 : ∀ o : OId, o ≠ (42, 0, 0) → M1 o = S'.2.1 o := fun o ho => by rw [hM1]; exact setV_o ho
    have rR : RF S'.2.2.1 := hR.fr (fun o g1 g2 => (q1.rd g2 g1).2.2)
    have rV : MV S'.1 B.1 := hMV.fr (q1.rd (x := (35, 0, 0)) (by simp) (by simp)).1
    obtain ⟨S2, q2, v1, v2, v3, v4, v5, v6, v7, v8, v9, va, vb, vc9, vd⟩ := writeStationM_ok (d := d + 11) (I := S'.1) (M := M1) (R := S'.2.2.1) (G := S'.2.2.2) (a := a) rR rV (by rw [← ha1]) hf (by omega) x1 y1 (by omega) e1 x2 y2 c2 e2 (show nms S' = [] from hA.2.2.1)
    rw [← hT] at v1 v3
    have d1 : evm (d + 20) 170 [aR (11, 0, 0), aI (xs (i + 1)), aR (42, 0, 0)] (I, M, R, G) = some (.inl (some (aI 0)), (S'.1, M1, S'.2.2)) := by
      rw [hM1]
      exact w170_v w1
    have d2 : evm (d + 20) 303 [aR (12, 0, 0), aI (xs (i + 1))] (S'.1, M1, S'.2.2) = some (.inl (some (aI (N T.length))), S2) := by
      rw [ha1]
      exact v1
    have d3 : evm (d + 20) 215 [aR (12, 0, 0)] S2 = some (.inl (some (aI 0)), S2) := thr_e (I := S2.1) (M := S2.2.1) (R := S2.2.2.1) (G := S2.2.2.2) (by rw [v7]; exact thr_at)
    have fr : ∀ o : OId, o ≠ (12, 0, 0) → o.1 ≠ 60 → 2 ≤ o.1 → S2.1 o = I o ∧ S2.2.1 o = M1 o ∧ S2.2.2.1 o = R o := fun o g1 g2 g3 => by
      obtain ⟨b1, b2, b3⟩ := v8 o g1 (fun q => absurd q g2) (fun q => absurd q (by omega))
      obtain ⟨c1, c2, c3⟩ := q1.rd g2 g3
      exact ⟨b1.trans c1, b2, b3.trans c3⟩
    have hnq : nq S' ≤ q2 := v4
    have d4 : S2.2.1 (42, 0, 0) 0 = aL (N T.length).toInt64 := by
      rw [(fr (42, 0, 0) (by simp) (by simp) (by simp)).2.1, hM1]
      exact setV_y
    have dx : xsS ((S'.1, M1, S'.2.2) : SS) = xs := (show xsS S' = xs from hA.2.2.2.2.2.trans hx)
    refine ⟨S2, B, hs, sn, ⟨⟨?_, ?_, ?_⟩, ob_0 h, ?_, ⟨k', n', q2, q2 + 1, T, ?_, ?_, v2, v3, v5, ?_, ?_, hlen⟩, v6, ⟨?_, ?_⟩, ?_⟩, lc46 (S1 := (S'.1, M1, S'.2.2)) hi hL hx dx d1 d2 d3 (fun _ => d4)⟩
    · refine hR.fr (fun o g1 g2 => ?_)
      by_cases g3 : o = (12, 0, 0)
      · rw [g3, va]
        exact (q1.rd (x := (12, 0, 0)) (by simp) (by simp)).2.2
      · exact (fr o g3 g2 g1).2.2
    · refine hC.fr (fun o ho => ?_)
      have g3 : o.1 ≠ 12 ∧ o.1 ≠ 60 ∧ 2 ≤ o.1 := by
        rcases ho with ⟨j, hj, g1, g2⟩ | g | g
        · omega
        · rw [g]
          simp
        · rw [g]
          simp
      exact (fr o (fun q => g3.1 (by rw [q])) g3.2.1 g3.2.2).1
    · have g12 : ∀ f, f ≠ 7 → S2.1 (12, 0, 0) f = I (12, 0, 0) f := fun f hf9 => by
        rw [v7]
        exact (thr_o hf9).trans (congrFun (q1.rd (x := (12, 0, 0)) (by simp) (by simp)).1 f)
      exact hM.fr (fr (35, 0, 0) (by simp) (by simp) (by simp)).1 (fr (36, 0, 0) (by simp) (by simp) (by simp)).1 (fr (37, 0, 0) (by simp) (by simp) (by simp)).1 (g12 8 (by decide)) (g12 15 (by decide))
    · intro x9 hx9
      rw [(fr (34, 0, 0) (by simp) (by simp) (by simp)).2.1, m1 _ (by simp), (q1.rd (x := (34, 0, 0)) (by simp) (by simp)).2.1]
      exact h.2.2.1 x9 hx9
    · obtain ⟨b1, b2, b3, b4, b5, b6⟩ := hT1
      obtain ⟨g1, g2, g3⟩ := v8 (1, 0, 0) (by simp) (fun q => by simp at q) (fun _ q => by simp at q)
      obtain ⟨g4, -, -⟩ := v8 (60, k', n') (by simp) (fun _ => hk2) (fun q => by simp at q)
      refine ⟨?_, b2, b3, ?_, ?_, fun i hi => ?_⟩
      · rw [g2, m1 _ (by simp)]
        exact b1
      · rw [g1]
        exact b4
      · rw [g1]
        exact b5
      · rw [g4]
        exact b6 i hi
    · omega
    · omega
    · omega
    · have g1 := h.2.2.2.2.2.1.1
      have g2 := hA.2.2.2.1
      have g3 : cel S2 ≤ cel S' + 15 := vb
      omega
    · have g1 := h.2.2.2.2.2.1.2
      have g2 := hA.2.2.2.2.1
      have g3 : slo S2 ≤ slo S' + 500 := vc9
      refine Nat.le_trans g3 ?_
      generalize slo S' = A1 at g2 ⊢
      generalize slo (I, M, R, G) = A2 at g1 g2
      omega
    · exact vd.trans dx
  · have c1 : evm (d + 19) 171 [aR (11, 0, 0), aI (xs (i + 1))] (I, M, R, G) = Ex 3 (I, M, R, G) := writeStation_no (d := d + 10) hR hV hf
    have e1 : evm (d + 20) 170 [aR (11, 0, 0), aI (xs (i + 1)), aR (42, 0, 0)] (I, M, R, G) = some (.inl (some (aI 1)), (I, M, R, bG G)) := w170_x3 c1
    have e2 : evm (d + 20) 303 [aR (12, 0, 0), aI (xs (i + 1))] (I, M, R, bG G) = some (.inl (some (aI 0)), (thr I 1, M, R, bG G)) := writeStationM_no (d := d + 11) hR hMV hf
    exact ⟨(thr I 1, M, R, bG G), _, _, _, rd_x h, lc46 (S1 := (I, M, R, bG G)) hi hL hx hx e1 e2 (thr_e thr_at) (fun q => absurd q (by decide))⟩
end CALLT
