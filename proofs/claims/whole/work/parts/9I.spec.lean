/-! THE METHODS' MEANING: the law's calls, other questions (genC.py) -/
theorem mv_lt {B : Bk} {t : Nat} (hO : OB t B) {p : Int32} (hp : ¬ p < 0 ∧ p < bmov B) : ∃ m, p = N m ∧ m < 2 ∧ N m < bmov B ∧ rg (N m) 0 (bmov B - 1) := by
  obtain ⟨a, a1, rfl⟩ := nn_N hp.1
  rcases hO.2.2.2.2 with hb | ⟨n, n1, hb⟩
  · exfalso
    have h2 := hp.2
    rw [hb] at h2
    have h3 : (N a).toInt = ((a : Nat) : Int) := Int32.toInt_ofNat_of_lt (by omega)
    have h4 : (-1 : Int32).toInt = -1 := by decide
    simp only [Int32.lt_iff_toInt_lt] at h2
    omega
  · have h2 := hp.2
    rw [hb, N_lt a1 (by omega)] at h2
    rw [hb]
    exact ⟨a, rfl, by omega, of_eq_true (N_lt1 h2 (by omega)), rg_tab n (by omega) a h2⟩
theorem mv_no {B : Bk} {t : Nat} (hO : OB t B) {p : Int32} (hp : ¬ (¬ p < 0 ∧ p < bmov B)) : ¬ rg p 0 (bmov B - 1) := by
  rcases hO.2.2.2.2 with hb | ⟨n, n1, hb⟩
  · rw [hb]
    rintro ⟨h1, h2⟩
    have e : (-1 : Int32) - 1 = -2 := by decide
    rw [e] at h2
    simp only [Int32.lt_iff_toInt_lt] at h1 h2
    have e1 : (-2 : Int32).toInt = -2 := by decide
    have e2 : (0 : Int32).toInt = 0 := by decide
    omega
  · rw [hb] at hp ⊢
    exact rg_no (by omega) hp
theorem mean_c : ∀ s, s < 197 → ∀ l, l < 7 → Op.cmpValue (FP.dcmp (FP.f2d (FP.fdiv (FP.i2f (N s)) (FP.i2f (N (l + 1))))) (FP.f2d (FP.fdiv (FP.i2f (N s)) (FP.i2f (N (l + 1)))))) .l = 0 := by decide +kernel
section CALLS
variable {d i L t : Nat} {xs : Nat → Int32} {I : OId → Nat → Int32} {M R : OId → Nat → AV} {G : SG} {B : Bk} {hs : List Bk} {sn : Option Bk}
theorem call23 (h : lawI t xs (I, M, R, G) B hs sn) (hi : i + 4 ≤ L) (hL : L ≤ 2048) (ht : t < 1000) : goC d L i 1280 t xs (I, M, R, G) := by
  have hR : RF R := h.1.1
  have hC : CR I B hs sn := h.1.2.1
  have hM : MR I B hs sn := h.1.2.2
  have hB : BA I 0 B := hC.1
  have hV : BV I 0 B.1 := hB.1
  have hMV : MV I B.1 := hM.1.mv
  have hO : OB t B := h.2.1.1
  have hW : WV B.1 := hO.1
  have hx : xsS (I, M, R, G) = xs := h.2.2.2.2.2.2
  by_cases hf : fid B.1 (xs (i + 1)) < vn B.1
  · by_cases hg : fid B.1 (xs (i + 2)) < vn B.1
    · by_cases he : (xs (i + 1)) = (xs (i + 2))
      · have hp : prT B.1 (xs (i + 1)) (xs (i + 2)) = 2 := by
          unfold prT
          rw [if_pos hf, if_pos hg, if_pos he]
        have c1 : evm (d + 19) 117 [aR (11, 0, 0), aI (xs (i + 1)), aI (xs (i + 2))] (I, M, R, G) = Ex 0 (I, M, R, G) := by
          have h9 := squaredDistance_ok (d := d + 14) (M := M) (G := G) (id := (xs (i + 1))) (other := (xs (i + 2))) hR hV
          rw [if_pos hf, if_pos hg, if_pos he] at h9
          exact h9
        have c2 : evm (d + 20) 274 [aR (12, 0, 0), aI (xs (i + 1)), aI (xs (i + 2))] (I, M, R, bG G) = some (.inl (some (aI (0))), ((thr I 2), M, R, bG G)) := by
          have h9 := squaredDistanceM_ok (d := d + 13) (M := M) (G := bG G) (id := (xs (i + 1))) (other := (xs (i + 2))) hR hMV
          rw [hp, if_neg (by decide)] at h9
          exact h9
        have e1 : evm (d + 20) 116 [aR (11, 0, 0), aI (xs (i + 1)), aI (xs (i + 2)), aR (42, 0, 0)] (I, M, R, G) = some (.inl (some (aI 2)), (I, M, R, bG G)) := w116_x0 c1
        have e2 : evm (d + 20) 274 [aR (12, 0, 0), aI (xs (i + 1)), aI (xs (i + 2))] (I, M, R, bG G) = some (.inl (some (aI 0)), ((thr I 2), M, R, bG G)) := c2
        exact ⟨((thr I 2), M, R, bG G), _, _, _, rd_x h, lc23 (S1 := (I, M, R, bG G)) hi hL hx hx e1 e2 (thr_e thr_at) (fun q => absurd q (by decide))⟩
      · have hp : prT B.1 (xs (i + 1)) (xs (i + 2)) = 0 := by
          unfold prT
          rw [if_pos hf, if_pos hg, if_neg he]
        have c1 : evm (d + 19) 117 [aR (11, 0, 0), aI (xs (i + 1)), aI (xs (i + 2))] (I, M, R, G) = some (.inl (some (aI (sq2 B.1 (fid B.1 (xs (i + 1))) (fid B.1 (xs (i + 2)))))), (I, M, R, G)) := by
          have h9 := squaredDistance_ok (d := d + 14) (M := M) (G := G) (id := (xs (i + 1))) (other := (xs (i + 2))) hR hV
          rw [if_pos hf, if_pos hg, if_neg he] at h9
          exact h9
        have c2 : evm (d + 20) 274 [aR (12, 0, 0), aI (xs (i + 1)), aI (xs (i + 2))] (I, setV M (42, 0, 0) 0 (aL (sq2 B.1 (fid B.1 (xs (i + 1))) (fid B.1 (xs (i + 2)))).toInt64), R, G) = some (.inl (some (aI (sq2 B.1 (fid B.1 (xs (i + 1))) (fid B.1 (xs (i + 2)))))), ((thr I 0), setV M (42, 0, 0) 0 (aL (sq2 B.1 (fid B.1 (xs (i + 1))) (fid B.1 (xs (i + 2)))).toInt64), R, G)) := by
          have h9 := squaredDistanceM_ok (d := d + 13) (M := setV M (42, 0, 0) 0 (aL (sq2 B.1 (fid B.1 (xs (i + 1))) (fid B.1 (xs (i + 2)))).toInt64)) (G := G) (id := (xs (i + 1))) (other := (xs (i + 2))) hR hMV
          rw [hp, if_pos rfl] at h9
          exact h9
        have e1 : evm (d + 20) 116 [aR (11, 0, 0), aI (xs (i + 1)), aI (xs (i + 2)), aR (42, 0, 0)] (I, M, R, G) = some (.inl (some (aI 0)), (I, setV M (42, 0, 0) 0 (aL (sq2 B.1 (fid B.1 (xs (i + 1))) (fid B.1 (xs (i + 2)))).toInt64), R, G)) := w116_v c1
        have e2 : evm (d + 20) 274 [aR (12, 0, 0), aI (xs (i + 1)), aI (xs (i + 2))] (I, setV M (42, 0, 0) 0 (aL (sq2 B.1 (fid B.1 (xs (i + 1))) (fid B.1 (xs (i + 2)))).toInt64), R, G) = some (.inl (some (aI (sq2 B.1 (fid B.1 (xs (i + 1))) (fid B.1 (xs (i + 2)))))), ((thr I 0), setV M (42, 0, 0) 0 (aL (sq2 B.1 (fid B.1 (xs (i + 1))) (fid B.1 (xs (i + 2)))).toInt64), R, G)) := c2
        exact ⟨((thr I 0), setV M (42, 0, 0) 0 (aL (sq2 B.1 (fid B.1 (xs (i + 1))) (fid B.1 (xs (i + 2)))).toInt64), R, G), _, _, _, rd_v h, lc23 (S1 := (I, setV M (42, 0, 0) 0 (aL (sq2 B.1 (fid B.1 (xs (i + 1))) (fid B.1 (xs (i + 2)))).toInt64), R, G)) hi hL hx hx e1 e2 (thr_e thr_at) (fun _ => out_v)⟩
    · have hp : prT B.1 (xs (i + 1)) (xs (i + 2)) = 1 := by
        unfold prT
        rw [if_pos hf, if_neg hg]
      have c1 : evm (d + 19) 117 [aR (11, 0, 0), aI (xs (i + 1)), aI (xs (i + 2))] (I, M, R, G) = Ex 3 (I, M, R, G) := by
        have h9 := squaredDistance_ok (d := d + 14) (M := M) (G := G) (id := (xs (i + 1))) (other := (xs (i + 2))) hR hV
        rw [if_pos hf, if_neg hg] at h9
        exact h9
      have c2 : evm (d + 20) 274 [aR (12, 0, 0), aI (xs (i + 1)), aI (xs (i + 2))] (I, M, R, bG G) = some (.inl (some (aI (0))), ((thr I 1), M, R, bG G)) := by
        have h9 := squaredDistanceM_ok (d := d + 13) (M := M) (G := bG G) (id := (xs (i + 1))) (other := (xs (i + 2))) hR hMV
        rw [hp, if_neg (by decide)] at h9
        exact h9
      have e1 : evm (d + 20) 116 [aR (11, 0, 0), aI (xs (i + 1)), aI (xs (i + 2)), aR (42, 0, 0)] (I, M, R, G) = some (.inl (some (aI 1)), (I, M, R, bG G)) := w116_x3 c1
      have e2 : evm (d + 20) 274 [aR (12, 0, 0), aI (xs (i + 1)), aI (xs (i + 2))] (I, M, R, bG G) = some (.inl (some (aI 0)), ((thr I 1), M, R, bG G)) := c2
      exact ⟨((thr I 1), M, R, bG G), _, _, _, rd_x h, lc23 (S1 := (I, M, R, bG G)) hi hL hx hx e1 e2 (thr_e thr_at) (fun q => absurd q (by decide))⟩
  · have hp : prT B.1 (xs (i + 1)) (xs (i + 2)) = 1 := by
      unfold prT
      rw [if_neg hf]
    have c1 : evm (d + 19) 117 [aR (11, 0, 0), aI (xs (i + 1)), aI (xs (i + 2))] (I, M, R, G) = Ex 3 (I, M, R, G) := by
      have h9 := squaredDistance_ok (d := d + 14) (M := M) (G := G) (id := (xs (i + 1))) (other := (xs (i + 2))) hR hV
      rw [if_neg hf] at h9
      exact h9
    have c2 : evm (d + 20) 274 [aR (12, 0, 0), aI (xs (i + 1)), aI (xs (i + 2))] (I, M, R, bG G) = some (.inl (some (aI (0))), ((thr I 1), M, R, bG G)) := by
      have h9 := squaredDistanceM_ok (d := d + 13) (M := M) (G := bG G) (id := (xs (i + 1))) (other := (xs (i + 2))) hR hMV
      rw [hp, if_neg (by decide)] at h9
      exact h9
    have e1 : evm (d + 20) 116 [aR (11, 0, 0), aI (xs (i + 1)), aI (xs (i + 2)), aR (42, 0, 0)] (I, M, R, G) = some (.inl (some (aI 1)), (I, M, R, bG G)) := w116_x3 c1
    have e2 : evm (d + 20) 274 [aR (12, 0, 0), aI (xs (i + 1)), aI (xs (i + 2))] (I, M, R, bG G) = some (.inl (some (aI 0)), ((thr I 1), M, R, bG G)) := c2
    exact ⟨((thr I 1), M, R, bG G), _, _, _, rd_x h, lc23 (S1 := (I, M, R, bG G)) hi hL hx hx e1 e2 (thr_e thr_at) (fun q => absurd q (by decide))⟩
theorem call24 (h : lawI t xs (I, M, R, G) B hs sn) (hi : i + 4 ≤ L) (hL : L ≤ 2048) (ht : t < 1000) : goC d L i 1348 t xs (I, M, R, G) := by
  have hR : RF R := h.1.1
  have hC : CR I B hs sn := h.1.2.1
  have hM : MR I B hs sn := h.1.2.2
  have hB : BA I 0 B := hC.1
  have hV : BV I 0 B.1 := hB.1
  have hMV : MV I B.1 := hM.1.mv
  have hO : OB t B := h.2.1.1
  have hW : WV B.1 := hO.1
  have hx : xsS (I, M, R, G) = xs := h.2.2.2.2.2.2
  by_cases hf : fid B.1 (xs (i + 1)) < vn B.1
  · by_cases hg : fid B.1 (xs (i + 2)) < vn B.1
    · by_cases he : (xs (i + 1)) = (xs (i + 2))
      · have hp : prT B.1 (xs (i + 1)) (xs (i + 2)) = 2 := by
          unfold prT
          rw [if_pos hf, if_pos hg, if_pos he]
        have c1 : evm (d + 19) 121 [aR (11, 0, 0), aI (xs (i + 1)), aI (xs (i + 2))] (I, M, R, G) = Ex 0 (I, M, R, G) := by
          have h9 := baseSeparation_ok (d := d + 14) (M := M) (G := G) (id := (xs (i + 1))) (other := (xs (i + 2))) hR hV
          rw [if_pos hf, if_pos hg, if_pos he] at h9
          exact h9
        have c2 : evm (d + 20) 276 [aR (12, 0, 0), aI (xs (i + 1)), aI (xs (i + 2))] (I, M, R, bG G) = some (.inl (some (aI (0))), ((thr I 2), M, R, bG G)) := by
          have h9 := baseSeparationM_ok (d := d + 13) (M := M) (G := bG G) (id := (xs (i + 1))) (other := (xs (i + 2))) hR hMV
          rw [hp, if_neg (by decide)] at h9
          exact h9
        have e1 : evm (d + 20) 120 [aR (11, 0, 0), aI (xs (i + 1)), aI (xs (i + 2)), aR (42, 0, 0)] (I, M, R, G) = some (.inl (some (aI 2)), (I, M, R, bG G)) := w120_x0 c1
        have e2 : evm (d + 20) 276 [aR (12, 0, 0), aI (xs (i + 1)), aI (xs (i + 2))] (I, M, R, bG G) = some (.inl (some (aI 0)), ((thr I 2), M, R, bG G)) := c2
        exact ⟨((thr I 2), M, R, bG G), _, _, _, rd_x h, lc24 (S1 := (I, M, R, bG G)) hi hL hx hx e1 e2 (thr_e thr_at) (fun q => absurd q (by decide))⟩
      · have hp : prT B.1 (xs (i + 1)) (xs (i + 2)) = 0 := by
          unfold prT
          rw [if_pos hf, if_pos hg, if_neg he]
        have c1 : evm (d + 19) 121 [aR (11, 0, 0), aI (xs (i + 1)), aI (xs (i + 2))] (I, M, R, G) = some (.inl (some (aI (bs2 B.1 (fid B.1 (xs (i + 1))) (fid B.1 (xs (i + 2)))))), (I, M, R, G)) := by
          have h9 := baseSeparation_ok (d := d + 14) (M := M) (G := G) (id := (xs (i + 1))) (other := (xs (i + 2))) hR hV
          rw [if_pos hf, if_pos hg, if_neg he] at h9
          exact h9
        have c2 : evm (d + 20) 276 [aR (12, 0, 0), aI (xs (i + 1)), aI (xs (i + 2))] (I, setV M (42, 0, 0) 0 (aL (bs2 B.1 (fid B.1 (xs (i + 1))) (fid B.1 (xs (i + 2)))).toInt64), R, G) = some (.inl (some (aI (bs2 B.1 (fid B.1 (xs (i + 1))) (fid B.1 (xs (i + 2)))))), ((thr I 0), setV M (42, 0, 0) 0 (aL (bs2 B.1 (fid B.1 (xs (i + 1))) (fid B.1 (xs (i + 2)))).toInt64), R, G)) := by
          have h9 := baseSeparationM_ok (d := d + 13) (M := setV M (42, 0, 0) 0 (aL (bs2 B.1 (fid B.1 (xs (i + 1))) (fid B.1 (xs (i + 2)))).toInt64)) (G := G) (id := (xs (i + 1))) (other := (xs (i + 2))) hR hMV
          rw [hp, if_pos rfl] at h9
          exact h9
        have e1 : evm (d + 20) 120 [aR (11, 0, 0), aI (xs (i + 1)), aI (xs (i + 2)), aR (42, 0, 0)] (I, M, R, G) = some (.inl (some (aI 0)), (I, setV M (42, 0, 0) 0 (aL (bs2 B.1 (fid B.1 (xs (i + 1))) (fid B.1 (xs (i + 2)))).toInt64), R, G)) := w120_v c1
        have e2 : evm (d + 20) 276 [aR (12, 0, 0), aI (xs (i + 1)), aI (xs (i + 2))] (I, setV M (42, 0, 0) 0 (aL (bs2 B.1 (fid B.1 (xs (i + 1))) (fid B.1 (xs (i + 2)))).toInt64), R, G) = some (.inl (some (aI (bs2 B.1 (fid B.1 (xs (i + 1))) (fid B.1 (xs (i + 2)))))), ((thr I 0), setV M (42, 0, 0) 0 (aL (bs2 B.1 (fid B.1 (xs (i + 1))) (fid B.1 (xs (i + 2)))).toInt64), R, G)) := c2
        exact ⟨((thr I 0), setV M (42, 0, 0) 0 (aL (bs2 B.1 (fid B.1 (xs (i + 1))) (fid B.1 (xs (i + 2)))).toInt64), R, G), _, _, _, rd_v h, lc24 (S1 := (I, setV M (42, 0, 0) 0 (aL (bs2 B.1 (fid B.1 (xs (i + 1))) (fid B.1 (xs (i + 2)))).toInt64), R, G)) hi hL hx hx e1 e2 (thr_e thr_at) (fun _ => out_v)⟩
    · have hp : prT B.1 (xs (i + 1)) (xs (i + 2)) = 1 := by
        unfold prT
        rw [if_pos hf, if_neg hg]
      have c1 : evm (d + 19) 121 [aR (11, 0, 0), aI (xs (i + 1)), aI (xs (i + 2))] (I, M, R, G) = Ex 3 (I, M, R, G) := by
        have h9 := baseSeparation_ok (d := d + 14) (M := M) (G := G) (id := (xs (i + 1))) (other := (xs (i + 2))) hR hV
        rw [if_pos hf, if_neg hg] at h9
        exact h9
      have c2 : evm (d + 20) 276 [aR (12, 0, 0), aI (xs (i + 1)), aI (xs (i + 2))] (I, M, R, bG G) = some (.inl (some (aI (0))), ((thr I 1), M, R, bG G)) := by
        have h9 := baseSeparationM_ok (d := d + 13) (M := M) (G := bG G) (id := (xs (i + 1))) (other := (xs (i + 2))) hR hMV
        rw [hp, if_neg (by decide)] at h9
        exact h9
      have e1 : evm (d + 20) 120 [aR (11, 0, 0), aI (xs (i + 1)), aI (xs (i + 2)), aR (42, 0, 0)] (I, M, R, G) = some (.inl (some (aI 1)), (I, M, R, bG G)) := w120_x3 c1
      have e2 : evm (d + 20) 276 [aR (12, 0, 0), aI (xs (i + 1)), aI (xs (i + 2))] (I, M, R, bG G) = some (.inl (some (aI 0)), ((thr I 1), M, R, bG G)) := c2
      exact ⟨((thr I 1), M, R, bG G), _, _, _, rd_x h, lc24 (S1 := (I, M, R, bG G)) hi hL hx hx e1 e2 (thr_e thr_at) (fun q => absurd q (by decide))⟩
  · have hp : prT B.1 (xs (i + 1)) (xs (i + 2)) = 1 := by
      unfold prT
      rw [if_neg hf]
    have c1 : evm (d + 19) 121 [aR (11, 0, 0), aI (xs (i + 1)), aI (xs (i + 2))] (I, M, R, G) = Ex 3 (I, M, R, G) := by
      have h9 := baseSeparation_ok (d := d + 14) (M := M) (G := G) (id := (xs (i + 1))) (other := (xs (i + 2))) hR hV
      rw [if_neg hf] at h9
      exact h9
    have c2 : evm (d + 20) 276 [aR (12, 0, 0), aI (xs (i + 1)), aI (xs (i + 2))] (I, M, R, bG G) = some (.inl (some (aI (0))), ((thr I 1), M, R, bG G)) := by
      have h9 := baseSeparationM_ok (d := d + 13) (M := M) (G := bG G) (id := (xs (i + 1))) (other := (xs (i + 2))) hR hMV
      rw [hp, if_neg (by decide)] at h9
      exact h9
    have e1 : evm (d + 20) 120 [aR (11, 0, 0), aI (xs (i + 1)), aI (xs (i + 2)), aR (42, 0, 0)] (I, M, R, G) = some (.inl (some (aI 1)), (I, M, R, bG G)) := w120_x3 c1
    have e2 : evm (d + 20) 276 [aR (12, 0, 0), aI (xs (i + 1)), aI (xs (i + 2))] (I, M, R, bG G) = some (.inl (some (aI 0)), ((thr I 1), M, R, bG G)) := c2
    exact ⟨((thr I 1), M, R, bG G), _, _, _, rd_x h, lc24 (S1 := (I, M, R, bG G)) hi hL hx hx e1 e2 (thr_e thr_at) (fun q => absurd q (by decide))⟩
theorem call25 (h : lawI t xs (I, M, R, G) B hs sn) (hi : i + 4 ≤ L) (hL : L ≤ 2048) (ht : t < 1000) : goC d L i 1416 t xs (I, M, R, G) := by
  have hR : RF R := h.1.1
  have hC : CR I B hs sn := h.1.2.1
  have hM : MR I B hs sn := h.1.2.2
  have hB : BA I 0 B := hC.1
  have hV : BV I 0 B.1 := hB.1
  have hMV : MV I B.1 := hM.1.mv
  have hO : OB t B := h.2.1.1
  have hW : WV B.1 := hO.1
  have hx : xsS (I, M, R, G) = xs := h.2.2.2.2.2.2
  by_cases hf : fid B.1 (xs (i + 1)) < vn B.1
  · by_cases hg : fid B.1 (xs (i + 2)) < vn B.1
    · by_cases he : (xs (i + 1)) = (xs (i + 2))
      · have hp : prT B.1 (xs (i + 1)) (xs (i + 2)) = 2 := by
          unfold prT
          rw [if_pos hf, if_pos hg, if_pos he]
        have c1 : evm (d + 19) 123 [aR (11, 0, 0), aI (xs (i + 1)), aI (xs (i + 2))] (I, M, R, G) = Ex 0 (I, M, R, G) := by
          have h9 := complaintCount_ok (d := d + 14) (M := M) (G := G) (id := (xs (i + 1))) (other := (xs (i + 2))) hR hV
          rw [if_pos hf, if_pos hg, if_pos he] at h9
          exact h9
        have c2 : evm (d + 20) 277 [aR (12, 0, 0), aI (xs (i + 1)), aI (xs (i + 2))] (I, M, R, bG G) = some (.inl (some (aI (0))), ((thr I 2), M, R, bG G)) := by
          have h9 := complaintCountM_ok (d := d + 13) (M := M) (G := bG G) (id := (xs (i + 1))) (other := (xs (i + 2))) hR hMV
          rw [hp, if_neg (by decide)] at h9
          exact h9
        have e1 : evm (d + 20) 122 [aR (11, 0, 0), aI (xs (i + 1)), aI (xs (i + 2)), aR (42, 0, 0)] (I, M, R, G) = some (.inl (some (aI 2)), (I, M, R, bG G)) := w122_x0 c1
        have e2 : evm (d + 20) 277 [aR (12, 0, 0), aI (xs (i + 1)), aI (xs (i + 2))] (I, M, R, bG G) = some (.inl (some (aI 0)), ((thr I 2), M, R, bG G)) := c2
        exact ⟨((thr I 2), M, R, bG G), _, _, _, rd_x h, lc25 (S1 := (I, M, R, bG G)) hi hL hx hx e1 e2 (thr_e thr_at) (fun q => absurd q (by decide))⟩
      · have hp : prT B.1 (xs (i + 1)) (xs (i + 2)) = 0 := by
          unfold prT
          rw [if_pos hf, if_pos hg, if_neg he]
        have c1 : evm (d + 19) 123 [aR (11, 0, 0), aI (xs (i + 1)), aI (xs (i + 2))] (I, M, R, G) = some (.inl (some (aI (vc B.1 (fid B.1 (xs (i + 1))) (fid B.1 (xs (i + 2)))))), (I, M, R, G)) := by
          have h9 := complaintCount_ok (d := d + 14) (M := M) (G := G) (id := (xs (i + 1))) (other := (xs (i + 2))) hR hV
          rw [if_pos hf, if_pos hg, if_neg he] at h9
          exact h9
        have c2 : evm (d + 20) 277 [aR (12, 0, 0), aI (xs (i + 1)), aI (xs (i + 2))] (I, setV M (42, 0, 0) 0 (aL (vc B.1 (fid B.1 (xs (i + 1))) (fid B.1 (xs (i + 2)))).toInt64), R, G) = some (.inl (some (aI (vc B.1 (fid B.1 (xs (i + 1))) (fid B.1 (xs (i + 2)))))), ((thr I 0), setV M (42, 0, 0) 0 (aL (vc B.1 (fid B.1 (xs (i + 1))) (fid B.1 (xs (i + 2)))).toInt64), R, G)) := by
          have h9 := complaintCountM_ok (d := d + 13) (M := setV M (42, 0, 0) 0 (aL (vc B.1 (fid B.1 (xs (i + 1))) (fid B.1 (xs (i + 2)))).toInt64)) (G := G) (id := (xs (i + 1))) (other := (xs (i + 2))) hR hMV
          rw [hp, if_pos rfl] at h9
          exact h9
        have e1 : evm (d + 20) 122 [aR (11, 0, 0), aI (xs (i + 1)), aI (xs (i + 2)), aR (42, 0, 0)] (I, M, R, G) = some (.inl (some (aI 0)), (I, setV M (42, 0, 0) 0 (aL (vc B.1 (fid B.1 (xs (i + 1))) (fid B.1 (xs (i + 2)))).toInt64), R, G)) := w122_v c1
        have e2 : evm (d + 20) 277 [aR (12, 0, 0), aI (xs (i + 1)), aI (xs (i + 2))] (I, setV M (42, 0, 0) 0 (aL (vc B.1 (fid B.1 (xs (i + 1))) (fid B.1 (xs (i + 2)))).toInt64), R, G) = some (.inl (some (aI (vc B.1 (fid B.1 (xs (i + 1))) (fid B.1 (xs (i + 2)))))), ((thr I 0), setV M (42, 0, 0) 0 (aL (vc B.1 (fid B.1 (xs (i + 1))) (fid B.1 (xs (i + 2)))).toInt64), R, G)) := c2
        exact ⟨((thr I 0), setV M (42, 0, 0) 0 (aL (vc B.1 (fid B.1 (xs (i + 1))) (fid B.1 (xs (i + 2)))).toInt64), R, G), _, _, _, rd_v h, lc25 (S1 := (I, setV M (42, 0, 0) 0 (aL (vc B.1 (fid B.1 (xs (i + 1))) (fid B.1 (xs (i + 2)))).toInt64), R, G)) hi hL hx hx e1 e2 (thr_e thr_at) (fun _ => out_v)⟩
    · have hp : prT B.1 (xs (i + 1)) (xs (i + 2)) = 1 := by
        unfold prT
        rw [if_pos hf, if_neg hg]
      have c1 : evm (d + 19) 123 [aR (11, 0, 0), aI (xs (i + 1)), aI (xs (i + 2))] (I, M, R, G) = Ex 3 (I, M, R, G) := by
        have h9 := complaintCount_ok (d := d + 14) (M := M) (G := G) (id := (xs (i + 1))) (other := (xs (i + 2))) hR hV
        rw [if_pos hf, if_neg hg] at h9
        exact h9
      have c2 : evm (d + 20) 277 [aR (12, 0, 0), aI (xs (i + 1)), aI (xs (i + 2))] (I, M, R, bG G) = some (.inl (some (aI (0))), ((thr I 1), M, R, bG G)) := by
        have h9 := complaintCountM_ok (d := d + 13) (M := M) (G := bG G) (id := (xs (i + 1))) (other := (xs (i + 2))) hR hMV
        rw [hp, if_neg (by decide)] at h9
        exact h9
      have e1 : evm (d + 20) 122 [aR (11, 0, 0), aI (xs (i + 1)), aI (xs (i + 2)), aR (42, 0, 0)] (I, M, R, G) = some (.inl (some (aI 1)), (I, M, R, bG G)) := w122_x3 c1
      have e2 : evm (d + 20) 277 [aR (12, 0, 0), aI (xs (i + 1)), aI (xs (i + 2))] (I, M, R, bG G) = some (.inl (some (aI 0)), ((thr I 1), M, R, bG G)) := c2
      exact ⟨((thr I 1), M, R, bG G), _, _, _, rd_x h, lc25 (S1 := (I, M, R, bG G)) hi hL hx hx e1 e2 (thr_e thr_at) (fun q => absurd q (by decide))⟩
  · have hp : prT B.1 (xs (i + 1)) (xs (i + 2)) = 1 := by
      unfold prT
      rw [if_neg hf]
    have c1 : evm (d + 19) 123 [aR (11, 0, 0), aI (xs (i + 1)), aI (xs (i + 2))] (I, M, R, G) = Ex 3 (I, M, R, G) := by
      have h9 := complaintCount_ok (d := d + 14) (M := M) (G := G) (id := (xs (i + 1))) (other := (xs (i + 2))) hR hV
      rw [if_neg hf] at h9
      exact h9
    have c2 : evm (d + 20) 277 [aR (12, 0, 0), aI (xs (i + 1)), aI (xs (i + 2))] (I, M, R, bG G) = some (.inl (some (aI (0))), ((thr I 1), M, R, bG G)) := by
      have h9 := complaintCountM_ok (d := d + 13) (M := M) (G := bG G) (id := (xs (i + 1))) (other := (xs (i + 2))) hR hMV
      rw [hp, if_neg (by decide)] at h9
      exact h9
    have e1 : evm (d + 20) 122 [aR (11, 0, 0), aI (xs (i + 1)), aI (xs (i + 2)), aR (42, 0, 0)] (I, M, R, G) = some (.inl (some (aI 1)), (I, M, R, bG G)) := w122_x3 c1
    have e2 : evm (d + 20) 277 [aR (12, 0, 0), aI (xs (i + 1)), aI (xs (i + 2))] (I, M, R, bG G) = some (.inl (some (aI 0)), ((thr I 1), M, R, bG G)) := c2
    exact ⟨((thr I 1), M, R, bG G), _, _, _, rd_x h, lc25 (S1 := (I, M, R, bG G)) hi hL hx hx e1 e2 (thr_e thr_at) (fun q => absurd q (by decide))⟩
theorem call26 (h : lawI t xs (I, M, R, G) B hs sn) (hi : i + 4 ≤ L) (hL : L ≤ 2048) (ht : t < 1000) : goC d L i 1484 t xs (I, M, R, G) := by
  have hR : RF R := h.1.1
  have hC : CR I B hs sn := h.1.2.1
  have hM : MR I B hs sn := h.1.2.2
  have hB : BA I 0 B := hC.1
  have hV : BV I 0 B.1 := hB.1
  have hMV : MV I B.1 := hM.1.mv
  have hO : OB t B := h.2.1.1
  have hW : WV B.1 := hO.1
  have hx : xsS (I, M, R, G) = xs := h.2.2.2.2.2.2
  by_cases hf : fid B.1 (xs (i + 1)) < vn B.1
  · by_cases hg : fid B.1 (xs (i + 2)) < vn B.1
    · by_cases he : (xs (i + 1)) = (xs (i + 2))
      · have hp : prT B.1 (xs (i + 1)) (xs (i + 2)) = 2 := by
          unfold prT
          rw [if_pos hf, if_pos hg, if_pos he]
        have c1 : evm (d + 19) 125 [aR (11, 0, 0), aI (xs (i + 1)), aI (xs (i + 2))] (I, M, R, G) = Ex 0 (I, M, R, G) := by
          have h9 := separation_ok (d := d + 14) (M := M) (G := G) (id := (xs (i + 1))) (other := (xs (i + 2))) hR hV
          rw [if_pos hf, if_pos hg, if_pos he] at h9
          exact h9
        have c2 : evm (d + 20) 278 [aR (12, 0, 0), aI (xs (i + 1)), aI (xs (i + 2))] (I, M, R, bG G) = some (.inl (some (aI (0))), ((thr I 2), M, R, bG G)) := by
          have h9 := separationM_ok (d := d + 13) (M := M) (G := bG G) (id := (xs (i + 1))) (other := (xs (i + 2))) hR hMV
          rw [hp, if_neg (by decide)] at h9
          exact h9
        have e1 : evm (d + 20) 124 [aR (11, 0, 0), aI (xs (i + 1)), aI (xs (i + 2)), aR (42, 0, 0)] (I, M, R, G) = some (.inl (some (aI 2)), (I, M, R, bG G)) := w124_x0 c1
        have e2 : evm (d + 20) 278 [aR (12, 0, 0), aI (xs (i + 1)), aI (xs (i + 2))] (I, M, R, bG G) = some (.inl (some (aI 0)), ((thr I 2), M, R, bG G)) := c2
        exact ⟨((thr I 2), M, R, bG G), _, _, _, rd_x h, lc26 (S1 := (I, M, R, bG G)) hi hL hx hx e1 e2 (thr_e thr_at) (fun q => absurd q (by decide))⟩
      · have hp : prT B.1 (xs (i + 1)) (xs (i + 2)) = 0 := by
          unfold prT
          rw [if_pos hf, if_pos hg, if_neg he]
        have c1 : evm (d + 19) 125 [aR (11, 0, 0), aI (xs (i + 1)), aI (xs (i + 2))] (I, M, R, G) = some (.inl (some (aI (spv B.1 (fid B.1 (xs (i + 1))) (fid B.1 (xs (i + 2)))))), (I, M, R, G)) := by
          have h9 := separation_ok (d := d + 14) (M := M) (G := G) (id := (xs (i + 1))) (other := (xs (i + 2))) hR hV
          rw [if_pos hf, if_pos hg, if_neg he] at h9
          exact h9
        have c2 : evm (d + 20) 278 [aR (12, 0, 0), aI (xs (i + 1)), aI (xs (i + 2))] (I, setV M (42, 0, 0) 0 (aL (spv B.1 (fid B.1 (xs (i + 1))) (fid B.1 (xs (i + 2)))).toInt64), R, G) = some (.inl (some (aI (spv B.1 (fid B.1 (xs (i + 1))) (fid B.1 (xs (i + 2)))))), ((thr I 0), setV M (42, 0, 0) 0 (aL (spv B.1 (fid B.1 (xs (i + 1))) (fid B.1 (xs (i + 2)))).toInt64), R, G)) := by
          have h9 := separationM_ok (d := d + 13) (M := setV M (42, 0, 0) 0 (aL (spv B.1 (fid B.1 (xs (i + 1))) (fid B.1 (xs (i + 2)))).toInt64)) (G := G) (id := (xs (i + 1))) (other := (xs (i + 2))) hR hMV
          rw [hp, if_pos rfl] at h9
          exact h9
        have e1 : evm (d + 20) 124 [aR (11, 0, 0), aI (xs (i + 1)), aI (xs (i + 2)), aR (42, 0, 0)] (I, M, R, G) = some (.inl (some (aI 0)), (I, setV M (42, 0, 0) 0 (aL (spv B.1 (fid B.1 (xs (i + 1))) (fid B.1 (xs (i + 2)))).toInt64), R, G)) := w124_v c1
        have e2 : evm (d + 20) 278 [aR (12, 0, 0), aI (xs (i + 1)), aI (xs (i + 2))] (I, setV M (42, 0, 0) 0 (aL (spv B.1 (fid B.1 (xs (i + 1))) (fid B.1 (xs (i + 2)))).toInt64), R, G) = some (.inl (some (aI (spv B.1 (fid B.1 (xs (i + 1))) (fid B.1 (xs (i + 2)))))), ((thr I 0), setV M (42, 0, 0) 0 (aL (spv B.1 (fid B.1 (xs (i + 1))) (fid B.1 (xs (i + 2)))).toInt64), R, G)) := c2
        exact ⟨((thr I 0), setV M (42, 0, 0) 0 (aL (spv B.1 (fid B.1 (xs (i + 1))) (fid B.1 (xs (i + 2)))).toInt64), R, G), _, _, _, rd_v h, lc26 (S1 := (I, setV M (42, 0, 0) 0 (aL (spv B.1 (fid B.1 (xs (i + 1))) (fid B.1 (xs (i + 2)))).toInt64), R, G)) hi hL hx hx e1 e2 (thr_e thr_at) (fun _ => out_v)⟩
    · have hp : prT B.1 (xs (i + 1)) (xs (i + 2)) = 1 := by
        unfold prT
        rw [if_pos hf, if_neg hg]
      have c1 : evm (d + 19) 125 [aR (11, 0, 0), aI (xs (i + 1)), aI (xs (i + 2))] (I, M, R, G) = Ex 3 (I, M, R, G) := by
        have h9 := separation_ok (d := d + 14) (M := M) (G := G) (id := (xs (i + 1))) (other := (xs (i + 2))) hR hV
        rw [if_pos hf, if_neg hg] at h9
        exact h9
      have c2 : evm (d + 20) 278 [aR (12, 0, 0), aI (xs (i + 1)), aI (xs (i + 2))] (I, M, R, bG G) = some (.inl (some (aI (0))), ((thr I 1), M, R, bG G)) := by
        have h9 := separationM_ok (d := d + 13) (M := M) (G := bG G) (id := (xs (i + 1))) (other := (xs (i + 2))) hR hMV
        rw [hp, if_neg (by decide)] at h9
        exact h9
      have e1 : evm (d + 20) 124 [aR (11, 0, 0), aI (xs (i + 1)), aI (xs (i + 2)), aR (42, 0, 0)] (I, M, R, G) = some (.inl (some (aI 1)), (I, M, R, bG G)) := w124_x3 c1
      have e2 : evm (d + 20) 278 [aR (12, 0, 0), aI (xs (i + 1)), aI (xs (i + 2))] (I, M, R, bG G) = some (.inl (some (aI 0)), ((thr I 1), M, R, bG G)) := c2
      exact ⟨((thr I 1), M, R, bG G), _, _, _, rd_x h, lc26 (S1 := (I, M, R, bG G)) hi hL hx hx e1 e2 (thr_e thr_at) (fun q => absurd q (by decide))⟩
  · have hp : prT B.1 (xs (i + 1)) (xs (i + 2)) = 1 := by
      unfold prT
      rw [if_neg hf]
    have c1 : evm (d + 19) 125 [aR (11, 0, 0), aI (xs (i + 1)), aI (xs (i + 2))] (I, M, R, G) = Ex 3 (I, M, R, G) := by
      have h9 := separation_ok (d := d + 14) (M := M) (G := G) (id := (xs (i + 1))) (other := (xs (i + 2))) hR hV
      rw [if_neg hf] at h9
      exact h9
    have c2 : evm (d + 20) 278 [aR (12, 0, 0), aI (xs (i + 1)), aI (xs (i + 2))] (I, M, R, bG G) = some (.inl (some (aI (0))), ((thr I 1), M, R, bG G)) := by
      have h9 := separationM_ok (d := d + 13) (M := M) (G := bG G) (id := (xs (i + 1))) (other := (xs (i + 2))) hR hMV
      rw [hp, if_neg (by decide)] at h9
      exact h9
    have e1 : evm (d + 20) 124 [aR (11, 0, 0), aI (xs (i + 1)), aI (xs (i + 2)), aR (42, 0, 0)] (I, M, R, G) = some (.inl (some (aI 1)), (I, M, R, bG G)) := w124_x3 c1
    have e2 : evm (d + 20) 278 [aR (12, 0, 0), aI (xs (i + 1)), aI (xs (i + 2))] (I, M, R, bG G) = some (.inl (some (aI 0)), ((thr I 1), M, R, bG G)) := c2
    exact ⟨((thr I 1), M, R, bG G), _, _, _, rd_x h, lc26 (S1 := (I, M, R, bG G)) hi hL hx hx e1 e2 (thr_e thr_at) (fun q => absurd q (by decide))⟩
theorem call27 (h : lawI t xs (I, M, R, G) B hs sn) (hi : i + 4 ≤ L) (hL : L ≤ 2048) (ht : t < 1000) : goC d L i 1552 t xs (I, M, R, G) := by
  have hR : RF R := h.1.1
  have hC : CR I B hs sn := h.1.2.1
  have hM : MR I B hs sn := h.1.2.2
  have hB : BA I 0 B := hC.1
  have hV : BV I 0 B.1 := hB.1
  have hMV : MV I B.1 := hM.1.mv
  have hO : OB t B := h.2.1.1
  have hW : WV B.1 := hO.1
  have hx : xsS (I, M, R, G) = xs := h.2.2.2.2.2.2
  by_cases hf : fid B.1 (xs (i + 1)) < vn B.1
  · by_cases hg : fid B.1 (xs (i + 2)) < vn B.1
    · by_cases he : (xs (i + 1)) = (xs (i + 2))
      · have hp : prT B.1 (xs (i + 1)) (xs (i + 2)) = 2 := by
          unfold prT
          rw [if_pos hf, if_pos hg, if_pos he]
        have c1 : evm (d + 19) 127 [aR (11, 0, 0), aI (xs (i + 1)), aI (xs (i + 2))] (I, M, R, G) = Ex 0 (I, M, R, G) := by
          have h9 := margin_ok (d := d + 14) (M := M) (G := G) (id := (xs (i + 1))) (other := (xs (i + 2))) hR hV
          rw [if_pos hf, if_pos hg, if_pos he] at h9
          exact h9
        have c2 : evm (d + 20) 279 [aR (12, 0, 0), aI (xs (i + 1)), aI (xs (i + 2))] (I, M, R, bG G) = some (.inl (some (aI (0))), ((thr I 2), M, R, bG G)) := by
          have h9 := marginM_ok (d := d + 13) (M := M) (G := bG G) (id := (xs (i + 1))) (other := (xs (i + 2))) hR hMV
          rw [hp, if_neg (by decide)] at h9
          exact h9
        have e1 : evm (d + 20) 126 [aR (11, 0, 0), aI (xs (i + 1)), aI (xs (i + 2)), aR (42, 0, 0)] (I, M, R, G) = some (.inl (some (aI 2)), (I, M, R, bG G)) := w126_x0 c1
        have e2 : evm (d + 20) 279 [aR (12, 0, 0), aI (xs (i + 1)), aI (xs (i + 2))] (I, M, R, bG G) = some (.inl (some (aI 0)), ((thr I 2), M, R, bG G)) := c2
        exact ⟨((thr I 2), M, R, bG G), _, _, _, rd_x h, lc27 (S1 := (I, M, R, bG G)) hi hL hx hx e1 e2 (thr_e thr_at) (fun q => absurd q (by decide))⟩
      · have hp : prT B.1 (xs (i + 1)) (xs (i + 2)) = 0 := by
          unfold prT
          rw [if_pos hf, if_pos hg, if_neg he]
        have c1 : evm (d + 19) 127 [aR (11, 0, 0), aI (xs (i + 1)), aI (xs (i + 2))] (I, M, R, G) = some (.inl (some (aI (mgv B.1 (fid B.1 (xs (i + 1))) (fid B.1 (xs (i + 2)))))), (I, M, R, G)) := by
          have h9 := margin_ok (d := d + 14) (M := M) (G := G) (id := (xs (i + 1))) (other := (xs (i + 2))) hR hV
          rw [if_pos hf, if_pos hg, if_neg he] at h9
          exact h9
        have c2 : evm (d + 20) 279 [aR (12, 0, 0), aI (xs (i + 1)), aI (xs (i + 2))] (I, setV M (42, 0, 0) 0 (aL (mgv B.1 (fid B.1 (xs (i + 1))) (fid B.1 (xs (i + 2)))).toInt64), R, G) = some (.inl (some (aI (mgv B.1 (fid B.1 (xs (i + 1))) (fid B.1 (xs (i + 2)))))), ((thr I 0), setV M (42, 0, 0) 0 (aL (mgv B.1 (fid B.1 (xs (i + 1))) (fid B.1 (xs (i + 2)))).toInt64), R, G)) := by
          have h9 := marginM_ok (d := d + 13) (M := setV M (42, 0, 0) 0 (aL (mgv B.1 (fid B.1 (xs (i + 1))) (fid B.1 (xs (i + 2)))).toInt64)) (G := G) (id := (xs (i + 1))) (other := (xs (i + 2))) hR hMV
          rw [hp, if_pos rfl] at h9
          exact h9
        have e1 : evm (d + 20) 126 [aR (11, 0, 0), aI (xs (i + 1)), aI (xs (i + 2)), aR (42, 0, 0)] (I, M, R, G) = some (.inl (some (aI 0)), (I, setV M (42, 0, 0) 0 (aL (mgv B.1 (fid B.1 (xs (i + 1))) (fid B.1 (xs (i + 2)))).toInt64), R, G)) := w126_v c1
        have e2 : evm (d + 20) 279 [aR (12, 0, 0), aI (xs (i + 1)), aI (xs (i + 2))] (I, setV M (42, 0, 0) 0 (aL (mgv B.1 (fid B.1 (xs (i + 1))) (fid B.1 (xs (i + 2)))).toInt64), R, G) = some (.inl (some (aI (mgv B.1 (fid B.1 (xs (i + 1))) (fid B.1 (xs (i + 2)))))), ((thr I 0), setV M (42, 0, 0) 0 (aL (mgv B.1 (fid B.1 (xs (i + 1))) (fid B.1 (xs (i + 2)))).toInt64), R, G)) := c2
        exact ⟨((thr I 0), setV M (42, 0, 0) 0 (aL (mgv B.1 (fid B.1 (xs (i + 1))) (fid B.1 (xs (i + 2)))).toInt64), R, G), _, _, _, rd_v h, lc27 (S1 := (I, setV M (42, 0, 0) 0 (aL (mgv B.1 (fid B.1 (xs (i + 1))) (fid B.1 (xs (i + 2)))).toInt64), R, G)) hi hL hx hx e1 e2 (thr_e thr_at) (fun _ => out_v)⟩
    · have hp : prT B.1 (xs (i + 1)) (xs (i + 2)) = 1 := by
        unfold prT
        rw [if_pos hf, if_neg hg]
      have c1 : evm (d + 19) 127 [aR (11, 0, 0), aI (xs (i + 1)), aI (xs (i + 2))] (I, M, R, G) = Ex 3 (I, M, R, G) := by
        have h9 := margin_ok (d := d + 14) (M := M) (G := G) (id := (xs (i + 1))) (other := (xs (i + 2))) hR hV
        rw [if_pos hf, if_neg hg] at h9
        exact h9
      have c2 : evm (d + 20) 279 [aR (12, 0, 0), aI (xs (i + 1)), aI (xs (i + 2))] (I, M, R, bG G) = some (.inl (some (aI (0))), ((thr I 1), M, R, bG G)) := by
        have h9 := marginM_ok (d := d + 13) (M := M) (G := bG G) (id := (xs (i + 1))) (other := (xs (i + 2))) hR hMV
        rw [hp, if_neg (by decide)] at h9
        exact h9
      have e1 : evm (d + 20) 126 [aR (11, 0, 0), aI (xs (i + 1)), aI (xs (i + 2)), aR (42, 0, 0)] (I, M, R, G) = some (.inl (some (aI 1)), (I, M, R, bG G)) := w126_x3 c1
      have e2 : evm (d + 20) 279 [aR (12, 0, 0), aI (xs (i + 1)), aI (xs (i + 2))] (I, M, R, bG G) = some (.inl (some (aI 0)), ((thr I 1), M, R, bG G)) := c2
      exact ⟨((thr I 1), M, R, bG G), _, _, _, rd_x h, lc27 (S1 := (I, M, R, bG G)) hi hL hx hx e1 e2 (thr_e thr_at) (fun q => absurd q (by decide))⟩
  · have hp : prT B.1 (xs (i + 1)) (xs (i + 2)) = 1 := by
      unfold prT
      rw [if_neg hf]
    have c1 : evm (d + 19) 127 [aR (11, 0, 0), aI (xs (i + 1)), aI (xs (i + 2))] (I, M, R, G) = Ex 3 (I, M, R, G) := by
      have h9 := margin_ok (d := d + 14) (M := M) (G := G) (id := (xs (i + 1))) (other := (xs (i + 2))) hR hV
      rw [if_neg hf] at h9
      exact h9
    have c2 : evm (d + 20) 279 [aR (12, 0, 0), aI (xs (i + 1)), aI (xs (i + 2))] (I, M, R, bG G) = some (.inl (some (aI (0))), ((thr I 1), M, R, bG G)) := by
      have h9 := marginM_ok (d := d + 13) (M := M) (G := bG G) (id := (xs (i + 1))) (other := (xs (i + 2))) hR hMV
      rw [hp, if_neg (by decide)] at h9
      exact h9
    have e1 : evm (d + 20) 126 [aR (11, 0, 0), aI (xs (i + 1)), aI (xs (i + 2)), aR (42, 0, 0)] (I, M, R, G) = some (.inl (some (aI 1)), (I, M, R, bG G)) := w126_x3 c1
    have e2 : evm (d + 20) 279 [aR (12, 0, 0), aI (xs (i + 1)), aI (xs (i + 2))] (I, M, R, bG G) = some (.inl (some (aI 0)), ((thr I 1), M, R, bG G)) := c2
    exact ⟨((thr I 1), M, R, bG G), _, _, _, rd_x h, lc27 (S1 := (I, M, R, bG G)) hi hL hx hx e1 e2 (thr_e thr_at) (fun q => absurd q (by decide))⟩
theorem call14 (h : lawI t xs (I, M, R, G) B hs sn) (hi : i + 4 ≤ L) (hL : L ≤ 2048) (ht : t < 1000) : goC d L i 855 t xs (I, M, R, G) := by
  have hR : RF R := h.1.1
  have hC : CR I B hs sn := h.1.2.1
  have hM : MR I B hs sn := h.1.2.2
  have hB : BA I 0 B := hC.1
  have hV : BV I 0 B.1 := hB.1
  have hMV : MV I B.1 := hM.1.mv
  have hO : OB t B := h.2.1.1
  have hW : WV B.1 := hO.1
  have hx : xsS (I, M, R, G) = xs := h.2.2.2.2.2.2
  by_cases hp : ¬ (xs (i + 1)) < 0 ∧ (xs (i + 1)) < N (vn B.1)
  · obtain ⟨k, k1, hk⟩ := nn_N hp.1
    have hkn : k < vn B.1 := by
      have h2 := hp.2
      rw [hk, N_lt k1 (by have := hW.2.1; omega)] at h2
      exact h2
    have c1 : evm (d + 19) 100 [aR (11, 0, 0), aI (xs (i + 1))] (I, M, R, G) = some (.inl (some (aI (vf B.1 k 0))), (I, M, R, G)) := by
      rw [hk]
      exact stationAt_ok (d := d + 17) hR hV hkn
    have c2 : evm (d + 20) 263 [aR (12, 0, 0), aI (xs (i + 1))] (I, setV M (42, 0, 0) 0 (aL (vf B.1 k 0).toInt64), R, G) = some (.inl (some (aI (vf B.1 k 0))), ((thr I 0), setV M (42, 0, 0) 0 (aL (vf B.1 k 0).toInt64), R, G)) := stationAtM_ok (d := d + 18) hR hMV hp hk hkn
    have e1 : evm (d + 20) 99 [aR (11, 0, 0), aI (xs (i + 1)), aR (42, 0, 0)] (I, M, R, G) = some (.inl (some (aI 0)), (I, setV M (42, 0, 0) 0 (aL (vf B.1 k 0).toInt64), R, G)) := w99_v c1
    have e2 : evm (d + 20) 263 [aR (12, 0, 0), aI (xs (i + 1))] (I, setV M (42, 0, 0) 0 (aL (vf B.1 k 0).toInt64), R, G) = some (.inl (some (aI (vf B.1 k 0))), ((thr I 0), setV M (42, 0, 0) 0 (aL (vf B.1 k 0).toInt64), R, G)) := c2
    exact ⟨((thr I 0), setV M (42, 0, 0) 0 (aL (vf B.1 k 0).toInt64), R, G), _, _, _, rd_v h, lc14 (S1 := (I, setV M (42, 0, 0) 0 (aL (vf B.1 k 0).toInt64), R, G)) hi hL hx hx e1 e2 (thr_e thr_at) (fun _ => out_v)⟩
  · have c1 : evm (d + 19) 100 [aR (11, 0, 0), aI (xs (i + 1))] (I, M, R, G) = Ex 4 (I, M, R, G) := stationAt_no (d := d + 17) hR hV hp
    have c2 : evm (d + 20) 263 [aR (12, 0, 0), aI (xs (i + 1))] (I, M, R, bG G) = some (.inl (some (aI (0))), ((thr I 1), M, R, bG G)) := stationAtM_no (d := d + 18) hR hMV hp
    have e1 : evm (d + 20) 99 [aR (11, 0, 0), aI (xs (i + 1)), aR (42, 0, 0)] (I, M, R, G) = some (.inl (some (aI 1)), (I, M, R, bG G)) := w99_x4 c1
    have e2 : evm (d + 20) 263 [aR (12, 0, 0), aI (xs (i + 1))] (I, M, R, bG G) = some (.inl (some (aI 0)), ((thr I 1), M, R, bG G)) := c2
    exact ⟨((thr I 1), M, R, bG G), _, _, _, rd_x h, lc14 (S1 := (I, M, R, bG G)) hi hL hx hx e1 e2 (thr_e thr_at) (fun q => absurd q (by decide))⟩
theorem call15 (h : lawI t xs (I, M, R, G) B hs sn) (hi : i + 4 ≤ L) (hL : L ≤ 2048) (ht : t < 1000) : goC d L i 911 t xs (I, M, R, G) := by
  have hR : RF R := h.1.1
  have hC : CR I B hs sn := h.1.2.1
  have hM : MR I B hs sn := h.1.2.2
  have hB : BA I 0 B := hC.1
  have hV : BV I 0 B.1 := hB.1
  have hMV : MV I B.1 := hM.1.mv
  have hO : OB t B := h.2.1.1
  have hW : WV B.1 := hO.1
  have hx : xsS (I, M, R, G) = xs := h.2.2.2.2.2.2
  by_cases hp : ¬ (xs (i + 1)) < 0 ∧ (xs (i + 1)) < N (vn B.1)
  · obtain ⟨k, hk, hkn⟩ := erl_fs hW.2.1 hp
    have c1 : evm (d + 19) 103 [aR (11, 0, 0), aI (xs (i + 1))] (I, M, R, G) = some (.inl (some (aI (vf B.1 k 0))), (I, M, R, G)) := stationByExpiry_ok (d := d + 15) hR hV hp hk hkn
    have c2 : evm (d + 20) 264 [aR (12, 0, 0), aI (xs (i + 1))] (I, setV M (42, 0, 0) 0 (aL (vf B.1 k 0).toInt64), R, G) = some (.inl (some (aI (vf B.1 k 0))), ((thr I 0), setV M (42, 0, 0) 0 (aL (vf B.1 k 0).toInt64), R, G)) := stationByExpiryM_ok (d := d + 17) hR hMV hp hk hkn
    have e1 : evm (d + 20) 102 [aR (11, 0, 0), aI (xs (i + 1)), aR (42, 0, 0)] (I, M, R, G) = some (.inl (some (aI 0)), (I, setV M (42, 0, 0) 0 (aL (vf B.1 k 0).toInt64), R, G)) := w102_v c1
    have e2 : evm (d + 20) 264 [aR (12, 0, 0), aI (xs (i + 1))] (I, setV M (42, 0, 0) 0 (aL (vf B.1 k 0).toInt64), R, G) = some (.inl (some (aI (vf B.1 k 0))), ((thr I 0), setV M (42, 0, 0) 0 (aL (vf B.1 k 0).toInt64), R, G)) := c2
    exact ⟨((thr I 0), setV M (42, 0, 0) 0 (aL (vf B.1 k 0).toInt64), R, G), _, _, _, rd_v h, lc15 (S1 := (I, setV M (42, 0, 0) 0 (aL (vf B.1 k 0).toInt64), R, G)) hi hL hx hx e1 e2 (thr_e thr_at) (fun _ => out_v)⟩
  · have c1 : evm (d + 19) 103 [aR (11, 0, 0), aI (xs (i + 1))] (I, M, R, G) = Ex 4 (I, M, R, G) := stationByExpiry_no (d := d + 15) hR hV hp
    have c2 : evm (d + 20) 264 [aR (12, 0, 0), aI (xs (i + 1))] (I, M, R, bG G) = some (.inl (some (aI (0))), ((thr I 1), M, R, bG G)) := stationByExpiryM_no (d := d + 17) hR hMV hp
    have e1 : evm (d + 20) 102 [aR (11, 0, 0), aI (xs (i + 1)), aR (42, 0, 0)] (I, M, R, G) = some (.inl (some (aI 1)), (I, M, R, bG G)) := w102_x4 c1
    have e2 : evm (d + 20) 264 [aR (12, 0, 0), aI (xs (i + 1))] (I, M, R, bG G) = some (.inl (some (aI 0)), ((thr I 1), M, R, bG G)) := c2
    exact ⟨((thr I 1), M, R, bG G), _, _, _, rd_x h, lc15 (S1 := (I, M, R, bG G)) hi hL hx hx e1 e2 (thr_e thr_at) (fun q => absurd q (by decide))⟩
theorem call28 (h : lawI t xs (I, M, R, G) B hs sn) (hi : i + 4 ≤ L) (hL : L ≤ 2048) (ht : t < 1000) : goC d L i 1620 t xs (I, M, R, G) := by
  have hR : RF R := h.1.1
  have hC : CR I B hs sn := h.1.2.1
  have hM : MR I B hs sn := h.1.2.2
  have hB : BA I 0 B := hC.1
  have hV : BV I 0 B.1 := hB.1
  have hMV : MV I B.1 := hM.1.mv
  have hO : OB t B := h.2.1.1
  have hW : WV B.1 := hO.1
  have hx : xsS (I, M, R, G) = xs := h.2.2.2.2.2.2
  by_cases hp : (rg (xs (i + 1)) 0 99 ∧ rg (xs (i + 2)) 0 99) ∧ rg (xs (i + 3)) 0 7
  · have c1 : evm (d + 19) 129 [aR (11, 0, 0), aI (xs (i + 1)), aI (xs (i + 2)), aI (xs (i + 3))] (I, M, R, G) = some (.inl (some (aI (cnf B.1 (xs (i + 1)) (xs (i + 2)) (xs (i + 3))))), (I, M, R, G)) := (conflictsAt_ok (d := d + 16) (M := M) (G := G) (x := xs (i + 1)) (y := xs (i + 2)) (c := xs (i + 3)) hR hV).trans (if_pos hp)
    have c2 : evm (d + 20) 280 [aR (12, 0, 0), aI (xs (i + 1)), aI (xs (i + 2)), aI (xs (i + 3))] (I, setV M (42, 0, 0) 0 (aL (cnf B.1 (xs (i + 1)) (xs (i + 2)) (xs (i + 3))).toInt64), R, G) = some (.inl (some (aI (cnf B.1 (xs (i + 1)) (xs (i + 2)) (xs (i + 3))))), ((thr I 0), setV M (42, 0, 0) 0 (aL (cnf B.1 (xs (i + 1)) (xs (i + 2)) (xs (i + 3))).toInt64), R, G)) := (conflictsAtM_ok (d := d + 15) (M := setV M (42, 0, 0) 0 (aL (cnf B.1 (xs (i + 1)) (xs (i + 2)) (xs (i + 3))).toInt64)) (G := G) (x := xs (i + 1)) (y := xs (i + 2)) (c := xs (i + 3)) hR hMV).trans (if_pos hp)
    have e1 : evm (d + 20) 128 [aR (11, 0, 0), aI (xs (i + 1)), aI (xs (i + 2)), aI (xs (i + 3)), aR (42, 0, 0)] (I, M, R, G) = some (.inl (some (aI 0)), (I, setV M (42, 0, 0) 0 (aL (cnf B.1 (xs (i + 1)) (xs (i + 2)) (xs (i + 3))).toInt64), R, G)) := w128_v c1
    have e2 : evm (d + 20) 280 [aR (12, 0, 0), aI (xs (i + 1)), aI (xs (i + 2)), aI (xs (i + 3))] (I, setV M (42, 0, 0) 0 (aL (cnf B.1 (xs (i + 1)) (xs (i + 2)) (xs (i + 3))).toInt64), R, G) = some (.inl (some (aI (cnf B.1 (xs (i + 1)) (xs (i + 2)) (xs (i + 3))))), ((thr I 0), setV M (42, 0, 0) 0 (aL (cnf B.1 (xs (i + 1)) (xs (i + 2)) (xs (i + 3))).toInt64), R, G)) := c2
    exact ⟨((thr I 0), setV M (42, 0, 0) 0 (aL (cnf B.1 (xs (i + 1)) (xs (i + 2)) (xs (i + 3))).toInt64), R, G), _, _, _, rd_v h, lc28 (S1 := (I, setV M (42, 0, 0) 0 (aL (cnf B.1 (xs (i + 1)) (xs (i + 2)) (xs (i + 3))).toInt64), R, G)) hi hL hx hx e1 e2 (thr_e thr_at) (fun _ => out_v)⟩
  · have c1 : evm (d + 19) 129 [aR (11, 0, 0), aI (xs (i + 1)), aI (xs (i + 2)), aI (xs (i + 3))] (I, M, R, G) = Ex 0 (I, M, R, G) := (conflictsAt_ok (d := d + 16) (M := M) (G := G) (x := xs (i + 1)) (y := xs (i + 2)) (c := xs (i + 3)) hR hV).trans (if_neg hp)
    have c2 : evm (d + 20) 280 [aR (12, 0, 0), aI (xs (i + 1)), aI (xs (i + 2)), aI (xs (i + 3))] (I, M, R, bG G) = some (.inl (some (aI (0))), ((thr I 1), M, R, bG G)) := (conflictsAtM_ok (d := d + 15) (M := M) (G := bG G) (x := xs (i + 1)) (y := xs (i + 2)) (c := xs (i + 3)) hR hMV).trans (if_neg hp)
    have e1 : evm (d + 20) 128 [aR (11, 0, 0), aI (xs (i + 1)), aI (xs (i + 2)), aI (xs (i + 3)), aR (42, 0, 0)] (I, M, R, G) = some (.inl (some (aI 1)), (I, M, R, bG G)) := w128_x0 c1
    have e2 : evm (d + 20) 280 [aR (12, 0, 0), aI (xs (i + 1)), aI (xs (i + 2)), aI (xs (i + 3))] (I, M, R, bG G) = some (.inl (some (aI 0)), ((thr I 1), M, R, bG G)) := c2
    exact ⟨((thr I 1), M, R, bG G), _, _, _, rd_x h, lc28 (S1 := (I, M, R, bG G)) hi hL hx hx e1 e2 (thr_e thr_at) (fun q => absurd q (by decide))⟩
theorem call29 (h : lawI t xs (I, M, R, G) B hs sn) (hi : i + 4 ≤ L) (hL : L ≤ 2048) (ht : t < 1000) : goC d L i 1700 t xs (I, M, R, G) := by
  have hR : RF R := h.1.1
  have hC : CR I B hs sn := h.1.2.1
  have hM : MR I B hs sn := h.1.2.2
  have hB : BA I 0 B := hC.1
  have hV : BV I 0 B.1 := hB.1
  have hMV : MV I B.1 := hM.1.mv
  have hO : OB t B := h.2.1.1
  have hW : WV B.1 := hO.1
  have hx : xsS (I, M, R, G) = xs := h.2.2.2.2.2.2
  by_cases hp : (rg (xs (i + 1)) 0 99 ∧ rg (xs (i + 2)) 0 99) ∧ rg (xs (i + 3)) 0 7
  · have c1 : evm (d + 19) 132 [aR (11, 0, 0), aI (xs (i + 1)), aI (xs (i + 2)), aI (xs (i + 3))] (I, M, R, G) = some (.inl (some (aI (dst B.1 (xs (i + 1)) (xs (i + 2)) (xs (i + 3)) (-1)))), (I, M, R, G)) := (disturbanceAt_ok (d := d + 16) (M := M) (G := G) (x := xs (i + 1)) (y := xs (i + 2)) (c := xs (i + 3)) hR hV).trans (if_pos hp)
    have c2 : evm (d + 20) 281 [aR (12, 0, 0), aI (xs (i + 1)), aI (xs (i + 2)), aI (xs (i + 3))] (I, setV M (42, 0, 0) 0 (aL (dst B.1 (xs (i + 1)) (xs (i + 2)) (xs (i + 3)) (-1)).toInt64), R, G) = some (.inl (some (aI (dst B.1 (xs (i + 1)) (xs (i + 2)) (xs (i + 3)) (-1)))), ((thr I 0), setV M (42, 0, 0) 0 (aL (dst B.1 (xs (i + 1)) (xs (i + 2)) (xs (i + 3)) (-1)).toInt64), R, G)) := (disturbanceAtM_ok (d := d + 15) (M := setV M (42, 0, 0) 0 (aL (dst B.1 (xs (i + 1)) (xs (i + 2)) (xs (i + 3)) (-1)).toInt64)) (G := G) (x := xs (i + 1)) (y := xs (i + 2)) (c := xs (i + 3)) hR hMV).trans (if_pos hp)
    have e1 : evm (d + 20) 131 [aR (11, 0, 0), aI (xs (i + 1)), aI (xs (i + 2)), aI (xs (i + 3)), aR (42, 0, 0)] (I, M, R, G) = some (.inl (some (aI 0)), (I, setV M (42, 0, 0) 0 (aL (dst B.1 (xs (i + 1)) (xs (i + 2)) (xs (i + 3)) (-1)).toInt64), R, G)) := w131_v c1
    have e2 : evm (d + 20) 281 [aR (12, 0, 0), aI (xs (i + 1)), aI (xs (i + 2)), aI (xs (i + 3))] (I, setV M (42, 0, 0) 0 (aL (dst B.1 (xs (i + 1)) (xs (i + 2)) (xs (i + 3)) (-1)).toInt64), R, G) = some (.inl (some (aI (dst B.1 (xs (i + 1)) (xs (i + 2)) (xs (i + 3)) (-1)))), ((thr I 0), setV M (42, 0, 0) 0 (aL (dst B.1 (xs (i + 1)) (xs (i + 2)) (xs (i + 3)) (-1)).toInt64), R, G)) := c2
    exact ⟨((thr I 0), setV M (42, 0, 0) 0 (aL (dst B.1 (xs (i + 1)) (xs (i + 2)) (xs (i + 3)) (-1)).toInt64), R, G), _, _, _, rd_v h, lc29 (S1 := (I, setV M (42, 0, 0) 0 (aL (dst B.1 (xs (i + 1)) (xs (i + 2)) (xs (i + 3)) (-1)).toInt64), R, G)) hi hL hx hx e1 e2 (thr_e thr_at) (fun _ => out_v)⟩
  · have c1 : evm (d + 19) 132 [aR (11, 0, 0), aI (xs (i + 1)), aI (xs (i + 2)), aI (xs (i + 3))] (I, M, R, G) = Ex 0 (I, M, R, G) := (disturbanceAt_ok (d := d + 16) (M := M) (G := G) (x := xs (i + 1)) (y := xs (i + 2)) (c := xs (i + 3)) hR hV).trans (if_neg hp)
    have c2 : evm (d + 20) 281 [aR (12, 0, 0), aI (xs (i + 1)), aI (xs (i + 2)), aI (xs (i + 3))] (I, M, R, bG G) = some (.inl (some (aI (0))), ((thr I 1), M, R, bG G)) := (disturbanceAtM_ok (d := d + 15) (M := M) (G := bG G) (x := xs (i + 1)) (y := xs (i + 2)) (c := xs (i + 3)) hR hMV).trans (if_neg hp)
    have e1 : evm (d + 20) 131 [aR (11, 0, 0), aI (xs (i + 1)), aI (xs (i + 2)), aI (xs (i + 3)), aR (42, 0, 0)] (I, M, R, G) = some (.inl (some (aI 1)), (I, M, R, bG G)) := w131_x0 c1
    have e2 : evm (d + 20) 281 [aR (12, 0, 0), aI (xs (i + 1)), aI (xs (i + 2)), aI (xs (i + 3))] (I, M, R, bG G) = some (.inl (some (aI 0)), ((thr I 1), M, R, bG G)) := c2
    exact ⟨((thr I 1), M, R, bG G), _, _, _, rd_x h, lc29 (S1 := (I, M, R, bG G)) hi hL hx hx e1 e2 (thr_e thr_at) (fun q => absurd q (by decide))⟩
theorem call39 (h : lawI t xs (I, M, R, G) B hs sn) (hi : i + 4 ≤ L) (hL : L ≤ 2048) (ht : t < 1000) : goC d L i 2335 t xs (I, M, R, G) := by
  have hR : RF R := h.1.1
  have hC : CR I B hs sn := h.1.2.1
  have hM : MR I B hs sn := h.1.2.2
  have hB : BA I 0 B := hC.1
  have hV : BV I 0 B.1 := hB.1
  have hMV : MV I B.1 := hM.1.mv
  have hO : OB t B := h.2.1.1
  have hW : WV B.1 := hO.1
  have hx : xsS (I, M, R, G) = xs := h.2.2.2.2.2.2
  by_cases hb : bmov B = -1
  · have hb' : bmov B < 0 := by
      rw [hb]
      decide
    have c1 : evm (d + 19) 162 [aR (11, 0, 0)] (I, M, R, G) = Ex 3 (I, M, R, G) := (moveCount_ok (d := d + 18) (M := M) (G := G) hR hB).trans (if_pos hb)
    have c2 : evm (d + 20) 294 [aR (12, 0, 0)] (I, M, R, bG G) = some (.inl (some (aI (0))), ((thr I 1), M, R, bG G)) := (moveCountM_ok (d := d + 18) (M := M) (G := bG G) hR hM.1).trans (if_pos hb')
    have e1 : evm (d + 20) 161 [aR (11, 0, 0), aR (42, 0, 0)] (I, M, R, G) = some (.inl (some (aI 1)), (I, M, R, bG G)) := w161_x3 c1
    have e2 : evm (d + 20) 294 [aR (12, 0, 0)] (I, M, R, bG G) = some (.inl (some (aI 0)), ((thr I 1), M, R, bG G)) := c2
    exact ⟨((thr I 1), M, R, bG G), _, _, _, rd_x h, lc39 (S1 := (I, M, R, bG G)) hi hL hx hx e1 e2 (thr_e thr_at) (fun q => absurd q (by decide))⟩
  · have hb' : ¬ bmov B < 0 := by
      rcases hO.2.2.2.2 with h9 | ⟨m, m1, h9⟩
      · exact absurd h9 hb
      · rw [h9, N_neg (by omega)]
        exact fun q => q
    have c1 : evm (d + 19) 162 [aR (11, 0, 0)] (I, M, R, G) = some (.inl (some (aI (bmov B))), (I, M, R, G)) := (moveCount_ok (d := d + 18) (M := M) (G := G) hR hB).trans (if_neg hb)
    have c2 : evm (d + 20) 294 [aR (12, 0, 0)] (I, setV M (42, 0, 0) 0 (aL (bmov B).toInt64), R, G) = some (.inl (some (aI (bmov B))), ((thr I 0), setV M (42, 0, 0) 0 (aL (bmov B).toInt64), R, G)) := (moveCountM_ok (d := d + 18) (M := setV M (42, 0, 0) 0 (aL (bmov B).toInt64)) (G := G) hR hM.1).trans (if_neg hb')
    have e1 : evm (d + 20) 161 [aR (11, 0, 0), aR (42, 0, 0)] (I, M, R, G) = some (.inl (some (aI 0)), (I, setV M (42, 0, 0) 0 (aL (bmov B).toInt64), R, G)) := w161_v c1
    have e2 : evm (d + 20) 294 [aR (12, 0, 0)] (I, setV M (42, 0, 0) 0 (aL (bmov B).toInt64), R, G) = some (.inl (some (aI (bmov B))), ((thr I 0), setV M (42, 0, 0) 0 (aL (bmov B).toInt64), R, G)) := c2
    exact ⟨((thr I 0), setV M (42, 0, 0) 0 (aL (bmov B).toInt64), R, G), _, _, _, rd_v h, lc39 (S1 := (I, setV M (42, 0, 0) 0 (aL (bmov B).toInt64), R, G)) hi hL hx hx e1 e2 (thr_e thr_at) (fun _ => out_v)⟩
theorem call40 (h : lawI t xs (I, M, R, G) B hs sn) (hi : i + 4 ≤ L) (hL : L ≤ 2048) (ht : t < 1000) : goC d L i 2379 t xs (I, M, R, G) := by
  have hR : RF R := h.1.1
  have hC : CR I B hs sn := h.1.2.1
  have hM : MR I B hs sn := h.1.2.2
  have hB : BA I 0 B := hC.1
  have hV : BV I 0 B.1 := hB.1
  have hMV : MV I B.1 := hM.1.mv
  have hO : OB t B := h.2.1.1
  have hW : WV B.1 := hO.1
  have hx : xsS (I, M, R, G) = xs := h.2.2.2.2.2.2
  by_cases hp : ¬ (xs (i + 1)) < 0 ∧ (xs (i + 1)) < bmov B
  · obtain ⟨m, hm, m2, m3, m4⟩ := mv_lt hO hp
    have c1 : evm (d + 19) 164 [aR (11, 0, 0), aI (xs (i + 1))] (I, M, R, G) = some (.inl (some (aI (bpl B (3 * m)))), (I, M, R, G)) := by
      rw [hm]
      exact movedStation_ok (d := d + 17) hR hB m2 m3
    have c2 : evm (d + 20) 295 [aR (12, 0, 0), aI (xs (i + 1))] (I, setV M (42, 0, 0) 0 (aL (bpl B (3 * m)).toInt64), R, G) = some (.inl (some (aI (bpl B (3 * m)))), ((thr I 0), setV M (42, 0, 0) 0 (aL (bpl B (3 * m)).toInt64), R, G)) := by
      rw [hm]
      exact movedStationM_ok (d := d + 17) hR hM.1 m2 m3 m4
    have e1 : evm (d + 20) 163 [aR (11, 0, 0), aI (xs (i + 1)), aR (42, 0, 0)] (I, M, R, G) = some (.inl (some (aI 0)), (I, setV M (42, 0, 0) 0 (aL (bpl B (3 * m)).toInt64), R, G)) := w163_v c1
    have e2 : evm (d + 20) 295 [aR (12, 0, 0), aI (xs (i + 1))] (I, setV M (42, 0, 0) 0 (aL (bpl B (3 * m)).toInt64), R, G) = some (.inl (some (aI (bpl B (3 * m)))), ((thr I 0), setV M (42, 0, 0) 0 (aL (bpl B (3 * m)).toInt64), R, G)) := c2
    exact ⟨((thr I 0), setV M (42, 0, 0) 0 (aL (bpl B (3 * m)).toInt64), R, G), _, _, _, rd_v h, lc40 (S1 := (I, setV M (42, 0, 0) 0 (aL (bpl B (3 * m)).toInt64), R, G)) hi hL hx hx e1 e2 (thr_e thr_at) (fun _ => out_v)⟩
  · have c1 : evm (d + 19) 164 [aR (11, 0, 0), aI (xs (i + 1))] (I, M, R, G) = Ex 3 (I, M, R, G) := movedStation_no (d := d + 17) hR hB hp
    have c2 : evm (d + 20) 295 [aR (12, 0, 0), aI (xs (i + 1))] (I, M, R, bG G) = some (.inl (some (aI (0))), ((thr I 1), M, R, bG G)) := movedStationM_no (d := d + 17) hR hM.1 (mv_no hO hp)
    have e1 : evm (d + 20) 163 [aR (11, 0, 0), aI (xs (i + 1)), aR (42, 0, 0)] (I, M, R, G) = some (.inl (some (aI 1)), (I, M, R, bG G)) := w163_x3 c1
    have e2 : evm (d + 20) 295 [aR (12, 0, 0), aI (xs (i + 1))] (I, M, R, bG G) = some (.inl (some (aI 0)), ((thr I 1), M, R, bG G)) := c2
    exact ⟨((thr I 1), M, R, bG G), _, _, _, rd_x h, lc40 (S1 := (I, M, R, bG G)) hi hL hx hx e1 e2 (thr_e thr_at) (fun q => absurd q (by decide))⟩
theorem call41 (h : lawI t xs (I, M, R, G) B hs sn) (hi : i + 4 ≤ L) (hL : L ≤ 2048) (ht : t < 1000) : goC d L i 2435 t xs (I, M, R, G) := by
  have hR : RF R := h.1.1
  have hC : CR I B hs sn := h.1.2.1
  have hM : MR I B hs sn := h.1.2.2
  have hB : BA I 0 B := hC.1
  have hV : BV I 0 B.1 := hB.1
  have hMV : MV I B.1 := hM.1.mv
  have hO : OB t B := h.2.1.1
  have hW : WV B.1 := hO.1
  have hx : xsS (I, M, R, G) = xs := h.2.2.2.2.2.2
  by_cases hp : ¬ (xs (i + 1)) < 0 ∧ (xs (i + 1)) < bmov B
  · obtain ⟨m, hm, m2, m3, m4⟩ := mv_lt hO hp
    have c1 : evm (d + 19) 167 [aR (11, 0, 0), aI (xs (i + 1))] (I, M, R, G) = some (.inl (some (aI (bpl B (3 * m + 1)))), (I, M, R, G)) := by
      rw [hm]
      exact movedFrom_ok (d := d + 17) hR hB m2 m3
    have c2 : evm (d + 20) 297 [aR (12, 0, 0), aI (xs (i + 1))] (I, setV M (42, 0, 0) 0 (aL (bpl B (3 * m + 1)).toInt64), R, G) = some (.inl (some (aI (bpl B (3 * m + 1)))), ((thr I 0), setV M (42, 0, 0) 0 (aL (bpl B (3 * m + 1)).toInt64), R, G)) := by
      rw [hm]
      exact movedFromM_ok (d := d + 17) hR hM.1 m2 m3 m4
    have e1 : evm (d + 20) 166 [aR (11, 0, 0), aI (xs (i + 1)), aR (42, 0, 0)] (I, M, R, G) = some (.inl (some (aI 0)), (I, setV M (42, 0, 0) 0 (aL (bpl B (3 * m + 1)).toInt64), R, G)) := w166_v c1
    have e2 : evm (d + 20) 297 [aR (12, 0, 0), aI (xs (i + 1))] (I, setV M (42, 0, 0) 0 (aL (bpl B (3 * m + 1)).toInt64), R, G) = some (.inl (some (aI (bpl B (3 * m + 1)))), ((thr I 0), setV M (42, 0, 0) 0 (aL (bpl B (3 * m + 1)).toInt64), R, G)) := c2
    exact ⟨((thr I 0), setV M (42, 0, 0) 0 (aL (bpl B (3 * m + 1)).toInt64), R, G), _, _, _, rd_v h, lc41 (S1 := (I, setV M (42, 0, 0) 0 (aL (bpl B (3 * m + 1)).toInt64), R, G)) hi hL hx hx e1 e2 (thr_e thr_at) (fun _ => out_v)⟩
  · have c1 : evm (d + 19) 167 [aR (11, 0, 0), aI (xs (i + 1))] (I, M, R, G) = Ex 3 (I, M, R, G) := movedFrom_no (d := d + 17) hR hB hp
    have c2 : evm (d + 20) 297 [aR (12, 0, 0), aI (xs (i + 1))] (I, M, R, bG G) = some (.inl (some (aI (0))), ((thr I 1), M, R, bG G)) := movedFromM_no (d := d + 17) hR hM.1 (mv_no hO hp)
    have e1 : evm (d + 20) 166 [aR (11, 0, 0), aI (xs (i + 1)), aR (42, 0, 0)] (I, M, R, G) = some (.inl (some (aI 1)), (I, M, R, bG G)) := w166_x3 c1
    have e2 : evm (d + 20) 297 [aR (12, 0, 0), aI (xs (i + 1))] (I, M, R, bG G) = some (.inl (some (aI 0)), ((thr I 1), M, R, bG G)) := c2
    exact ⟨((thr I 1), M, R, bG G), _, _, _, rd_x h, lc41 (S1 := (I, M, R, bG G)) hi hL hx hx e1 e2 (thr_e thr_at) (fun q => absurd q (by decide))⟩
theorem call42 (h : lawI t xs (I, M, R, G) B hs sn) (hi : i + 4 ≤ L) (hL : L ≤ 2048) (ht : t < 1000) : goC d L i 2491 t xs (I, M, R, G) := by
  have hR : RF R := h.1.1
  have hC : CR I B hs sn := h.1.2.1
  have hM : MR I B hs sn := h.1.2.2
  have hB : BA I 0 B := hC.1
  have hV : BV I 0 B.1 := hB.1
  have hMV : MV I B.1 := hM.1.mv
  have hO : OB t B := h.2.1.1
  have hW : WV B.1 := hO.1
  have hx : xsS (I, M, R, G) = xs := h.2.2.2.2.2.2
  by_cases hp : ¬ (xs (i + 1)) < 0 ∧ (xs (i + 1)) < bmov B
  · obtain ⟨m, hm, m2, m3, m4⟩ := mv_lt hO hp
    have c1 : evm (d + 19) 169 [aR (11, 0, 0), aI (xs (i + 1))] (I, M, R, G) = some (.inl (some (aI (bpl B (3 * m + 2)))), (I, M, R, G)) := by
      rw [hm]
      exact movedTo_ok (d := d + 17) hR hB m2 m3
    have c2 : evm (d + 20) 298 [aR (12, 0, 0), aI (xs (i + 1))] (I, setV M (42, 0, 0) 0 (aL (bpl B (3 * m + 2)).toInt64), R, G) = some (.inl (some (aI (bpl B (3 * m + 2)))), ((thr I 0), setV M (42, 0, 0) 0 (aL (bpl B (3 * m + 2)).toInt64), R, G)) := by
      rw [hm]
      exact movedToM_ok (d := d + 17) hR hM.1 m2 m3 m4
    have e1 : evm (d + 20) 168 [aR (11, 0, 0), aI (xs (i + 1)), aR (42, 0, 0)] (I, M, R, G) = some (.inl (some (aI 0)), (I, setV M (42, 0, 0) 0 (aL (bpl B (3 * m + 2)).toInt64), R, G)) := w168_v c1
    have e2 : evm (d + 20) 298 [aR (12, 0, 0), aI (xs (i + 1))] (I, setV M (42, 0, 0) 0 (aL (bpl B (3 * m + 2)).toInt64), R, G) = some (.inl (some (aI (bpl B (3 * m + 2)))), ((thr I 0), setV M (42, 0, 0) 0 (aL (bpl B (3 * m + 2)).toInt64), R, G)) := c2
    exact ⟨((thr I 0), setV M (42, 0, 0) 0 (aL (bpl B (3 * m + 2)).toInt64), R, G), _, _, _, rd_v h, lc42 (S1 := (I, setV M (42, 0, 0) 0 (aL (bpl B (3 * m + 2)).toInt64), R, G)) hi hL hx hx e1 e2 (thr_e thr_at) (fun _ => out_v)⟩
  · have c1 : evm (d + 19) 169 [aR (11, 0, 0), aI (xs (i + 1))] (I, M, R, G) = Ex 3 (I, M, R, G) := movedTo_no (d := d + 17) hR hB hp
    have c2 : evm (d + 20) 298 [aR (12, 0, 0), aI (xs (i + 1))] (I, M, R, bG G) = some (.inl (some (aI (0))), ((thr I 1), M, R, bG G)) := movedToM_no (d := d + 17) hR hM.1 (mv_no hO hp)
    have e1 : evm (d + 20) 168 [aR (11, 0, 0), aI (xs (i + 1)), aR (42, 0, 0)] (I, M, R, G) = some (.inl (some (aI 1)), (I, M, R, bG G)) := w168_x3 c1
    have e2 : evm (d + 20) 298 [aR (12, 0, 0), aI (xs (i + 1))] (I, M, R, bG G) = some (.inl (some (aI 0)), ((thr I 1), M, R, bG G)) := c2
    exact ⟨((thr I 1), M, R, bG G), _, _, _, rd_x h, lc42 (S1 := (I, M, R, bG G)) hi hL hx hx e1 e2 (thr_e thr_at) (fun q => absurd q (by decide))⟩
theorem call30 (h : lawI t xs (I, M, R, G) B hs sn) (hi : i + 4 ≤ L) (hL : L ≤ 2048) (ht : t < 1000) : goC d L i 1780 t xs (I, M, R, G) := by
  have hR : RF R := h.1.1
  have hC : CR I B hs sn := h.1.2.1
  have hM : MR I B hs sn := h.1.2.2
  have hB : BA I 0 B := hC.1
  have hV : BV I 0 B.1 := hB.1
  have hMV : MV I B.1 := hM.1.mv
  have hO : OB t B := h.2.1.1
  have hW : WV B.1 := hO.1
  have hx : xsS (I, M, R, G) = xs := h.2.2.2.2.2.2
  by_cases hl : sm (licv B.1) (vn B.1) = 0
  · have c1 : evm (d + 19) 134 [aR (11, 0, 0)] (I, M, R, G) = Ex 5 (I, M, R, G) := (meanDisturbance_ok (d := d + 15) (M := M) (G := G) hR hV hW).trans (if_pos hl)
    have e2 : evm (d + 20) 282 [aR (12, 0, 0)] (I, M, R, bG G) = some (.inl (some (aF 0)), ((thr I 1), M, R, bG G)) := (meanDisturbanceM_ok (d := d + 16) (M := M) (G := bG G) hR hMV hW).trans (if_pos hl)
    have e1 : evm (d + 20) 133 [aR (11, 0, 0), aR (43, 0, 0)] (I, M, R, G) = some (.inl (some (aI 1)), (I, M, R, bG G)) := w133_x5 c1
    exact ⟨((thr I 1), M, R, bG G), _, _, _, rd_x h, lc30 (S1 := (I, M, R, bG G)) hi hL hx hx e1 e2 (thr_e thr_at) (fun q => absurd q (by decide))⟩
  · obtain ⟨s, s1, hs9⟩ := sdv_N hW
    obtain ⟨l, l1, hl9⟩ := lic_N (V := B.1) (n := vn B.1)
    have h7 := hW.2.1
    have l0 : l ≠ 0 := fun q => hl (by rw [hl9, q]; rfl)
    obtain ⟨l', rfl⟩ : ∃ l', l = l' + 1 := ⟨l - 1, by omega⟩
    have hd : FP.f2d (FP.fdiv (FP.i2f (sdv B.1)) (FP.i2f (sm (licv B.1) (vn B.1)))) &&& 0x7fffffffffffffff ≤ 0x7ff0000000000000 := by
      rw [hs9, hl9]
      exact mean_d s (by omega) l' (by omega)
    have hc : Op.cmpValue (FP.dcmp (FP.f2d (FP.fdiv (FP.i2f (sdv B.1)) (FP.i2f (sm (licv B.1) (vn B.1))))) (FP.f2d (FP.fdiv (FP.i2f (sdv B.1)) (FP.i2f (sm (licv B.1) (vn B.1)))))) .l = 0 := by
      rw [hs9, hl9]
      exact mean_c s (by omega) l' (by omega)
    have c1 : evm (d + 19) 134 [aR (11, 0, 0)] (I, M, R, G) = some (.inl (some (aF (FP.fdiv (FP.i2f (sdv B.1)) (FP.i2f (sm (licv B.1) (vn B.1)))))), (I, M, R, G)) := (meanDisturbance_ok (d := d + 15) (M := M) (G := G) hR hV hW).trans (if_neg hl)
    have e1 : evm (d + 20) 133 [aR (11, 0, 0), aR (43, 0, 0)] (I, M, R, G) = some (.inl (some (aI 0)), (I, setV M (43, 0, 0) 0 (aD (FP.f2d (FP.fdiv (FP.i2f (sdv B.1)) (FP.i2f (sm (licv B.1) (vn B.1)))))), R, G)) := w133_v c1 hd
    have e2 : evm (d + 20) 282 [aR (12, 0, 0)] (I, setV M (43, 0, 0) 0 (aD (FP.f2d (FP.fdiv (FP.i2f (sdv B.1)) (FP.i2f (sm (licv B.1) (vn B.1)))))), R, G) = some (.inl (some (aF (FP.fdiv (FP.i2f (sdv B.1)) (FP.i2f (sm (licv B.1) (vn B.1)))))), (thr I 0, setV M (43, 0, 0) 0 (aD (FP.f2d (FP.fdiv (FP.i2f (sdv B.1)) (FP.i2f (sm (licv B.1) (vn B.1)))))), R, G)) := (meanDisturbanceM_ok (d := d + 16) (M := setV M (43, 0, 0) 0 (aD (FP.f2d (FP.fdiv (FP.i2f (sdv B.1)) (FP.i2f (sm (licv B.1) (vn B.1))))))) (G := G) hR hMV hW).trans (if_neg hl)
    exact ⟨(thr I 0, setV M (43, 0, 0) 0 (aD (FP.f2d (FP.fdiv (FP.i2f (sdv B.1)) (FP.i2f (sm (licv B.1) (vn B.1)))))), R, G), _, _, _, h.step (fz_am FA.rf thr_fm) fw_43 (z_43 h.2.2.1) ge_r (cr_m hC thr_fm) hM.th (ob_0 h), lc30 (S1 := (I, setV M (43, 0, 0) 0 (aD (FP.f2d (FP.fdiv (FP.i2f (sdv B.1)) (FP.i2f (sm (licv B.1) (vn B.1)))))), R, G)) hi hL hx hx e1 e2 (thr_e thr_at) (fun _ => ⟨out_d, hd, hc⟩)⟩
end CALLS
