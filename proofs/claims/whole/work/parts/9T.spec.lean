/-! THE LAW: its loop -/
theorem hd_cond {L i : Nat} (hi : i ≤ L) (hL : L ≤ 2048) : (N L - 4 < N i) = ¬ (i + 4 ≤ L) := by
  by_cases h : 4 ≤ L
  · have e : N L - 4 = N (L - 4) := by
      have e4 : N L = N (L - 4) + 4 := by
        rw [N_4, Nat.sub_add_cancel h]
      rw [e4, Int32.add_sub_cancel]
    rw [e, N_lt (by omega) (by omega)]
    exact propext ⟨fun q => by omega, fun q => by omega⟩
  · have hd : ∀ a, a < 4 → ∀ b, b < 4 → N a - 4 < N b := by decide +kernel
    exact propext ⟨fun _ => by omega, fun _ => hd L (by omega) i (by omega)⟩
theorem kN44 {L : Nat} {k : Int32 → Option Out} : kN (44, L, 0) k = k (N L) := rfl
section LOOP
variable {d i L t : Nat} {xs : Nat → Int32} {I : OId → Nat → Int32} {M R : OId → Nat → AV} {G : SG} {B : Bk} {hs : List Bk} {sn : Option Bk}
theorem nx_no {S : SS} : Nx d L i 2799 S S := by
  intro l6 l7
  refine ⟨l6, l7, ?_⟩
  simp only [s311_2799, s311_2802, N_4, if_false, if_true, ck_v, ck_x, Option.toList, List.cons_append, List.nil_append, kil_nil, N_1, o10, o00, exN_0, exN_1, exN_2, exN_3, exN_4, exN_5, Ex]
theorem calls_ok (hi : i + 4 ≤ L) (hL : L ≤ 2048) (ht : t < 1000) : ∀ m, lawI t xs (I, M, R, G) B hs sn → goC d L i (tgc m) t xs (I, M, R, G)
  | 0, h => by
    rw [show tgc 0 = 264 from rfl]
    exact call0 h hi hL ht
  | 1, h => by
    rw [show tgc 1 = 344 from rfl]
    exact call1 h hi hL ht
  | 2, h => by
    rw [show tgc 2 = 357 from rfl]
    exact call2 h hi hL ht
  | 3, h => by
    rw [show tgc 3 = 370 from rfl]
    exact call3 h hi hL ht
  | 4, h => by
    rw [show tgc 4 = 383 from rfl]
    exact call4 h hi hL ht
  | 5, h => by
    rw [show tgc 5 = 463 from rfl]
    exact call5 h hi hL ht
  | 6, h => by
    rw [show tgc 6 = 543 from rfl]
    exact call6 h hi hL ht
  | 7, h => by
    rw [show tgc 7 = 611 from rfl]
    exact call7 h hi hL ht
  | 8, h => by
    rw [show tgc 8 = 679 from rfl]
    exact call8 h hi hL ht
  | 9, h => by
    rw [show tgc 9 = 735 from rfl]
    exact call9 h hi hL ht
  | 10, h => by
    rw [show tgc 10 = 791 from rfl]
    exact call10 h hi hL ht
  | 11, h => by
    rw [show tgc 11 = 804 from rfl]
    exact call11 h hi hL ht
  | 12, h => by
    rw [show tgc 12 = 817 from rfl]
    exact call12 h hi hL ht
  | 13, h => by
    rw [show tgc 13 = 830 from rfl]
    exact call13 h hi hL ht
  | 14, h => by
    rw [show tgc 14 = 855 from rfl]
    exact call14 h hi hL ht
  | 15, h => by
    rw [show tgc 15 = 911 from rfl]
    exact call15 h hi hL ht
  | 16, h => by
    rw [show tgc 16 = 967 from rfl]
    exact call16 h hi hL ht
  | 17, h => by
    rw [show tgc 17 = 1023 from rfl]
    exact call17 h hi hL ht
  | 18, h => by
    rw [show tgc 18 = 1079 from rfl]
    exact call18 h hi hL ht
  | 19, h => by
    rw [show tgc 19 = 1135 from rfl]
    exact call19 h hi hL ht
  | 20, h => by
    rw [show tgc 20 = 1191 from rfl]
    exact call20 h hi hL ht
  | 21, h => by
    rw [show tgc 21 = 1254 from rfl]
    exact call21 h hi hL ht
  | 22, h => by
    rw [show tgc 22 = 1267 from rfl]
    exact call22 h hi hL ht
  | 23, h => by
    rw [show tgc 23 = 1280 from rfl]
    exact call23 h hi hL ht
  | 24, h => by
    rw [show tgc 24 = 1348 from rfl]
    exact call24 h hi hL ht
  | 25, h => by
    rw [show tgc 25 = 1416 from rfl]
    exact call25 h hi hL ht
  | 26, h => by
    rw [show tgc 26 = 1484 from rfl]
    exact call26 h hi hL ht
  | 27, h => by
    rw [show tgc 27 = 1552 from rfl]
    exact call27 h hi hL ht
  | 28, h => by
    rw [show tgc 28 = 1620 from rfl]
    exact call28 h hi hL ht
  | 29, h => by
    rw [show tgc 29 = 1700 from rfl]
    exact call29 h hi hL ht
  | 30, h => by
    rw [show tgc 30 = 1780 from rfl]
    exact call30 h hi hL ht
  | 31, h => by
    rw [show tgc 31 = 1846 from rfl]
    exact call31 h hi hL ht
  | 32, h => by
    rw [show tgc 32 = 1859 from rfl]
    exact call32 h hi hL ht
  | 33, h => by
    rw [show tgc 33 = 1927 from rfl]
    exact call33 h hi hL ht
  | 34, h => by
    rw [show tgc 34 = 1995 from rfl]
    exact call34 h hi hL ht
  | 35, h => by
    rw [show tgc 35 = 2063 from rfl]
    exact call35 h hi hL ht
  | 36, h => by
    rw [show tgc 36 = 2131 from rfl]
    exact call36 h hi hL ht
  | 37, h => by
    rw [show tgc 37 = 2199 from rfl]
    exact call37 h hi hL ht
  | 38, h => by
    rw [show tgc 38 = 2267 from rfl]
    exact call38 h hi hL ht
  | 39, h => by
    rw [show tgc 39 = 2335 from rfl]
    exact call39 h hi hL ht
  | 40, h => by
    rw [show tgc 40 = 2379 from rfl]
    exact call40 h hi hL ht
  | 41, h => by
    rw [show tgc 41 = 2435 from rfl]
    exact call41 h hi hL ht
  | 42, h => by
    rw [show tgc 42 = 2491 from rfl]
    exact call42 h hi hL ht
  | 43, h => by
    rw [show tgc 43 = 2547 from rfl]
    exact call43 h hi hL ht
  | 44, h => by
    rw [show tgc 44 = 2560 from rfl]
    exact call44 h hi hL ht
  | 45, h => by
    rw [show tgc 45 = 2573 from rfl]
    exact call45 h hi hL ht
  | 46, h => by
    rw [show tgc 46 = 2586 from rfl]
    exact call46 h hi hL ht
  | 47, h => by
    rw [show tgc 47 = 2642 from rfl]
    exact call47 h hi hL ht
  | 48, h => by
    rw [show tgc 48 = 2698 from rfl]
    exact call48 h hi hL ht
  | 49, h => by
    rw [show tgc 49 = 2742 from rfl]
    exact call49 h hi hL ht
  | 50, h => by
    rw [show tgc 50 = 2755 from rfl]
    exact call50 h hi hL ht
  | m + 51, h => by
    rw [show tgc (m + 51) = 2799 from if_neg (by omega)]
    exact ⟨(I, M, R, G), B, hs, sn, fin_p h FA.rf (fun _ _ => rfl) h.1.2.1 h.1.2.2 (ob_0 h), nx_no⟩
theorem step_ok {S : SS} (h : lawI t xs S B hs sn) (hi : i + 4 ≤ L) (hL : L ≤ 2048) (ht : t < 1000) : goC d L i 28 t xs S := by
  obtain ⟨I, M, R, G⟩ := S
  obtain ⟨m, hm, e⟩ := and63 (xs i)
  obtain ⟨S2, B2, h2, s2, hl, hn⟩ := calls_ok (d := d) hi hL ht m h
  have hx : xsS ((I, M, R, G) : SS) = xs := h.2.2.2.2.2.2
  refine ⟨S2, B2, h2, s2, hl, fun l6 l7 => ?_⟩
  obtain ⟨l6', l7', e2⟩ := hn l6 l7
  refine ⟨l6', l7', ?_⟩
  rw [← e2]
  simp only [s311_28, s311_30, s311_31, s311_32, s311_33, s311_34, s311_37, s311_38, s311_40, s311_41, s311_43, kN44, hd_cond (show i ≤ L by omega) hL, hi, not_true_eq_false, N_cl (show i < 2147483648 by omega), kI44 (L := L) (k := i) (by omega) hL, ag44 hx, e, ts_ok hm, if_false, if_true, ck_v, ck_x, Option.toList, List.cons_append, List.nil_append, kil_nil, N_1, o10, o00, exN_0, exN_1, exN_2, exN_3, exN_4, exN_5, Ex]
theorem loop_ok (hL : L ≤ 2048) : ∀ (k t i : Nat) (S : SS) (B : Bk) (hs : List Bk) (sn : Option Bk) (l6 l7 : Option AV), i = 4 * t → i ≤ L → L < i + 4 * k → lawI t xs S B hs sn → ∃ S9, ev (evm (d + 20)) 311 28 [some (aR (44, L, 0)), some (aR (11, 0, 0)), some (aR (12, 0, 0)), some (aR (42, 0, 0)), some (aR (43, 0, 0)), some (aI (N i)), l6, l7] [] [] S = some (.inl (some (aI 1)), S9) ∧ cel S9 ≤ 21480 ∧ slo S9 ≤ 849200 := by
  intro k
  induction k with
  | zero =>
    intro t i S B hs sn l6 l7 h1 h2 h3 _
    omega
  | succ k ih =>
    intro t i S B hs sn l6 l7 h1 h2 h3 h
    by_cases hi : i + 4 ≤ L
    · obtain ⟨S2, B2, h4, s2, hl, hn⟩ := step_ok (d := d) h hi hL (by omega)
      obtain ⟨l6', l7', e⟩ := hn l6 l7
      rw [e]
      exact ih (t + 1) (i + 4) S2 B2 h4 s2 l6' l7' (by omega) hi (by omega) hl
    · refine ⟨S, ?_, ?_, ?_⟩
      · simp only [s311_28, s311_30, s311_31, s311_32, s311_33, s311_34, s311_2805, s311_2806, kN44, hd_cond h2 hL, hi, not_false_eq_true, or_true, if_false, if_true, ck_v, ck_x, Option.toList, List.cons_append, List.nil_append, kil_nil, N_1, o10, o00, exN_0, exN_1, exN_2, exN_3, exN_4, exN_5, Ex]
      · have h9 := h.2.2.2.2.2.1.1
        omega
      · have h9 := h.2.2.2.2.2.1.2
        omega
end LOOP
theorem law_ok {L : Nat} {xs : Nat → Int32} (hL : L ≤ 2048) : LawOk law0 L xs := by
  obtain ⟨S9, p, e, h⟩ := start_ok (d := 0) (L := L) (xs := xs)
  obtain ⟨S', e', c, s⟩ := loop_ok (d := 0) hL (L + 1) 0 0 S9 _ _ _ none none rfl (Nat.zero_le _) (by omega) h
  exact ⟨20, S', by omega, e.trans e', Nat.le_trans c (by decide), Nat.le_trans s (by decide)⟩
theorem whole_start {p : Program} {e : Env} {s : State} {m : MethodId} {below : List Frame} {meth : Method} {c : Code} (l : Launch) (hflags : l.flags = flags0) {b L : Nat} {xs : Nat → Int32} (hL : L ≤ 2048) (C0 : lw_At p s m meth c b L xs) : W p l e room_1 s m #[Value.ref b] below meth c s.heap [] 0 0 (lw_Z below #[Value.ref b] s) (entryFrame m ([Value.ref b] : List Value).toArray 8) := whole_of l hflags C0 (fun o ho => (law0_ok o ho).2.2.2.2.2) (law_ok hL)
