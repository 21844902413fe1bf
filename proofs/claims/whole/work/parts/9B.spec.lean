/-! THE METHODS' MEANING: text, a character in the model -/
theorem rg_tab : ∀ n, n < 19 → ∀ i, i < n → rg (N i) 0 (N n - 1) := by decide +kernel
theorem rg_no {p : Int32} {n : Nat} (hn : n < 19) (hp : ¬ (¬ p < 0 ∧ p < N n)) : ¬ rg p 0 (N n - 1) := by
  rintro ⟨h1, h2⟩
  apply hp
  refine ⟨h1, ?_⟩
  cases n with
  | zero =>
    exfalso
    apply h2
    have e : N 0 - 1 = -1 := by decide
    rw [e]
    simp only [Int32.lt_iff_toInt_lt] at h1 ⊢
    have e1 : (-1 : Int32).toInt = -1 := by decide
    have e2 : (0 : Int32).toInt = 0 := by decide
    omega
  | succ n =>
    have e : N (n + 1) - 1 = N n := by
      rw [← N_1]
      grind
    rw [e] at h2
    simp only [Int32.lt_iff_toInt_lt] at h2 ⊢
    have e1 : (N n).toInt = ((n : Nat) : Int) := Int32.toInt_ofNat_of_lt (by omega)
    have e2 : (N (n + 1)).toInt = ((n + 1 : Nat) : Int) := Int32.toInt_ofNat_of_lt (by omega)
    omega
section TEXTA
variable {d k q : Nat} {S : SS} {s : List Nat} {I : OId → Nat → Int32} {M R : OId → Nat → AV} {G : SG}
theorem charAtD_ok {i : Nat} (hM : txM S (0, q, 2) k s) (hl : s.length ≤ 18) (hi : i < s.length) : evm (d + 4) 305 [aR (0, q, 2), aI (N i)] S = some (.inl (some (aI (N (s.getD i 0)))), S) := by
  obtain ⟨g1, g2⟩ := hM.2.2 i hi
  obtain ⟨t1, t2⟩ := chb_tab _ g2
  have e8 : by8 0 = 0 := rfl
  have hK : kOf (60, k, s.length) = .inr (.byte, s.length) := rfl
  have hb : by8 (N (s.getD i 0)) = N (s.getD i 0) := by8_tab _ g2
  simp only [m305, s305_0, s305_1, s305_4, s305_7, s305_8, s305_11, s305_12, s305_15, m306, s306_0, s306_3, s306_6, s306_7, s306_10, s306_13, s306_14, s306_18, m307, s307_0, s307_1, s307_2, s307_3, s307_6, s307_7, s307_8, s307_9, s307_12, s307_13, s307_14, fg_d0, fg_d1, hM.1, hM.2.1, e8, kN, hK, chk_ok hi (show s.length < 100 by omega), kB, inB_N hi (show s.length < 2147483648 by omega), N_cl (show i < 2147483648 by omega), agB_60, g1, hb, t1, t2, if_false, if_true, ck_v, ck_x, Option.toList, List.cons_append, List.nil_append, kil_nil, N_1, o10, o00, exN_0, exN_1, exN_2, exN_3, exN_4, exN_5, Ex, or_true]
theorem txM.fr {S' : SS} (hM : txM S (0, q, 2) k s) (h1 : S'.1 (0, q, 2) = S.1 (0, q, 2)) (h2 : S'.2.1 (0, q, 2) = S.2.1 (0, q, 2)) (h3 : S'.1 (60, k, s.length) = S.1 (60, k, s.length)) : txM S' (0, q, 2) k s := ⟨by rw [h2]; exact hM.1, by rw [h1]; exact hM.2.1, fun i hi => by rw [h3]; exact hM.2.2 i hi⟩
theorem lineAtM_ok {i : Nat} (h16 : M (12, 0, 0) 16 = aR (0, q, 2)) (hM : txM (I, M, R, G) (0, q, 2) k s) (hl : s.length ≤ 18) (hi : i < s.length) : evm (d + 5) 304 [aR (12, 0, 0), aI (N i)] (I, M, R, G) = some (.inl (some (aI (N (s.getD i 0)))), (thr I 0, M, R, G)) := by
  have m1 : thr I 0 (0, q, 2) = I (0, q, 2) := thr_ne (by simp)
  have m6 : thr I 0 (60, k, s.length) = I (60, k, s.length) := thr_ne (by simp)
  have hM' : txM (thr I 0, M, R, G) (0, q, 2) k s := ⟨hM.1, (congrFun m1 1).trans hM.2.1, fun i hi => ⟨(congrFun m6 i).trans (hM.2.2 i hi).1, (hM.2.2 i hi).2⟩⟩
  have t2 := (chb_tab _ (hM.2.2 i hi).2).2
  have z0 : ((0 : Int32) ≤ 0) = True := by decide
  have el : evm (d + 4) 181 [aR (0, q, 2)] (I, M, R, G) = some (.inl (some (aI (N s.length))), (I, M, R, G)) := lenD_ok (d := d + 2) hM hl
  have ec : evm (d + 4) 305 [aR (0, q, 2), aI (N i)] (thr I 0, M, R, G) = some (.inl (some (aI (N (s.getD i 0)))), (thr I 0, M, R, G)) := charAtD_ok hM' hl hi
  have hrg : rg (N i) 0 (N s.length - 1) := rg_tab _ (by omega) _ hi
  simp only [m304, s304_0, s304_1, s304_2, s304_3, s304_4, s304_7, s304_10, s304_11, s304_12, s304_15, s304_18, s304_26, s304_27, s304_30, s304_31, s304_34, h16, el, in_ok, if_pos hrg, checked_1, ec, z0, t2, if_false, if_true, ck_v, ck_x, Option.toList, List.cons_append, List.nil_append, kil_nil, N_1, o10, o00, exN_0, exN_1, exN_2, exN_3, exN_4, exN_5, Ex]
theorem lineAtM_no {x : Int32} (h16 : M (12, 0, 0) 16 = aR (0, q, 2)) (hM : txM (I, M, R, G) (0, q, 2) k s) (hl : s.length ≤ 18) (hx : ¬ (¬ x < 0 ∧ x < N s.length)) : evm (d + 5) 304 [aR (12, 0, 0), aI x] (I, M, R, G) = some (.inl (some (aI 32)), (thr I 1, M, R, G)) := by
  have z1 : ((1 : Int32) ≤ 0) = False := by decide
  have t2 : ((32 : Int32).toUInt32 % 65536).toInt32 = 32 := by decide
  have el : evm (d + 4) 181 [aR (0, q, 2)] (I, M, R, G) = some (.inl (some (aI (N s.length))), (I, M, R, G)) := lenD_ok (d := d + 2) hM hl
  simp only [m304, s304_0, s304_1, s304_2, s304_3, s304_4, s304_7, s304_10, s304_11, s304_12, s304_15, s304_18, s304_21, s304_23, s304_34, h16, el, in_ok, if_neg (rg_no (by omega) hx), checked_0, z1, t2, if_false, if_true, ck_v, ck_x, Option.toList, List.cons_append, List.nil_append, kil_nil, N_1, o10, o00, exN_0, exN_1, exN_2, exN_3, exN_4, exN_5, Ex]
end TEXTA
