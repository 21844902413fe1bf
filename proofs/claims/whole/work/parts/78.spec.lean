/-! THE METHODS' MEANING: the class serves a complaint -/
def upV (V : Vw) (a s : Nat) (v : Int32) : Vw := (V.1, vn V, V.2.2.1, V.2.2.2.1, fun i j => if i = a ∧ j = s ∨ i = s ∧ j = a then v else vc V i j)
theorem upV_cmp {B : Bk} {a s : Nat} {v : Int32} : (cmpB B a s v).1 = upV B.1 a s v := rfl
theorem lsl_up {V : Vw} {a s : Nat} {v : Int32} {e : Option Nat} : ∀ k, lsl (upV V a s v) e k = lsl V e k
  | 0 => rfl
  | k + 1 => by
    unfold lsl
    rw [lsl_up k]
    rfl
theorem spv_up {V : Vw} {a s : Nat} {v : Int32} {k m : Nat} (hk : k ≠ s) (hm : m ≠ s) : spv (upV V a s v) k m = spv V k m := by
  have e : vc (upV V a s v) k m = vc V k m := if_neg (by omega)
  show bs2 (upV V a s v) k m + vc (upV V a s v) k m = _
  rw [e]
  rfl
theorem sep_up {V : Vw} {a s : Nat} {w t t' w' : Option Nat} {k : Nat} (ha : a ≠ s) (hsym : vc V a s = vc V s a) : sepS (upV V a s (vc V a s + 1)) (qsl (upV V a s (vc V a s + 1)) s w t) k = if k = a then sepS V (qsl V s w' t') k + 1 else sepS V (qsl V s w' t') k := by
  have e : vc (upV V a s (vc V a s + 1)) s k = if k = a then vc V s k + 1 else vc V s k := by
    by_cases hk : k = a
    · rw [if_pos hk]
      subst hk
      show (if s = k ∧ k = s ∨ s = s ∧ k = k then vc V k s + 1 else vc V s k) = _
      rw [if_pos (Or.inr ⟨rfl, rfl⟩), hsym]
    · rw [if_neg hk]
      exact if_neg (by omega)
  show bsv V k (vf V s 1) (vf V s 2) + vc (upV V a s (vc V a s + 1)) s k = if k = a then (bsv V k (vf V s 1) (vf V s 2) + vc V s k) + 1 else bsv V k (vf V s 1) (vf V s 2) + vc V s k
  rw [e]
  split
  · grind
  · rfl
section SCPL
variable {d : Nat} {I I' I'' : OId → Nat → Int32} {M R : OId → Nat → AV} {G : SG} {V : Vw} {L : List Nat} {q : Qy}
theorem scLoop {a s : Nat} (hR : RF R) (hi : inj V) (hL7 : L.length ≤ 7) (hm : ∀ k, k ∈ L → k < vn V) (ha : a < vn V) (hLi : ∀ (i j k : Nat), L[i]? = some k → L[j]? = some k → i = j) : ∀ (r i : Nat) (J : OId → Nat → Int32), i + r = L.length → FS I J → NT J V L → (∀ j m, L[j]? = some m → J (30, 0, 0) j = (if m = a ∧ j < i then sepS V (qsl V s none none) m + 1 else sepS V (qsl V s none none) m) ∧ bb (J (31, 0, 0) j) = if sqv V m (vf V s 1) (vf V s 2) < V.1.2.2 * V.1.2.2 then 1 else 0) → J (8, 0, 0) 5 = 255 → (∀ j m, L[j]? = some m → (N j = J (8, 0, 0) 6) = (m = a ∧ j < i)) → ∃ J', ev (evm (d + 5)) 160 18 [some (aR (8, 0, 0)), some (aR (4, 0, 0)), some (aI (vf V a 0)), some (aI (N s)), some (aI (N i))] [] [] (J, M, R, G) = some (.inl none, (J', M, R, G)) ∧ FS I J' ∧ NT J' V L ∧ (∀ j m, L[j]? = some m → J' (30, 0, 0) j = (if m = a then sepS V (qsl V s none none) m + 1 else sepS V (qsl V s none none) m) ∧ bb (J' (31, 0, 0) j) = if sqv V m (vf V s 1) (vf V s 2) < V.1.2.2 * V.1.2.2 then 1 else 0) ∧ J' (8, 0, 0) 5 = 255 ∧ (∀ j m, L[j]? = some m → (N j = J' (8, 0, 0) 6) = (m = a)) := by
  intro r
  induction r with
  | zero =>
    intro i J hir hF hN hS h5 h6
    refine ⟨J, ?_, hF, hN, fun j m hm => ?_, h5, fun j m hm => ?_⟩
    · rw [s160_18]
      simp only [m160, s160_0, s160_1, s160_4, s160_5, s160_6, s160_9, s160_10, s160_11, s160_12, s160_15, s160_16, s160_20, s160_21, s160_24, s160_27, s160_30, s160_31, s160_34, s160_37, s160_39, s160_42, s160_43, s160_46, s160_47, s160_49, s160_52, s160_53, s160_56, s160_58, s160_59, s160_62, s160_64, s160_67, s160_68, s160_69, s160_72, s160_75, s160_78, hR.s.1, hN.1, N_ge1 (show L.length ≤ i by omega) (show i < 2147483648 by omega), if_false, if_true, ck_v, ck_x, Option.toList, List.cons_append, List.nil_append, kil_nil, N_1, o10, o00, exN_0, exN_1, exN_2, exN_3, exN_4, exN_5, Ex]
    · have hj := (ls_get hm).1
      have h9 := hS j m hm
      simp only [show (m = a ∧ j < i) = (m = a) from propext ⟨fun q => q.1, fun q => ⟨q, by omega⟩⟩] at h9
      exact h9
    · have hj := (ls_get hm).1
      rw [h6 j m hm]
      exact propext ⟨fun q => q.1, fun q => ⟨q, by omega⟩⟩
  | succ r ih =>
    intro i J hir hF hN hS h5 h6
    have hil : i < L.length := by omega
    obtain ⟨k, hk⟩ : ∃ k, L[i]? = some k := ⟨L[i], List.getElem?_eq_getElem hil⟩
    have hkn : k < vn V := hm k (ls_get hk).2
    have e27 := (hN.2 i k hk).2.1
    have hS9 := hS i k hk
    rw [if_neg (by omega)] at hS9
    by_cases hka : k = a
    · subst hka
      obtain ⟨J1, hJ1⟩ : ∃ J1, J1 = setI (setI J (8, 0, 0) 6 (N i)) (30, 0, 0) i (sepS V (qsl V s none none) k + 1) := ⟨_, rfl⟩
      have o1 : ∀ o, o ≠ (8, 0, 0) → o ≠ (30, 0, 0) → J1 o = J o := fun o h h' => by rw [hJ1, setI_ne h', setI_ne h]
      have o8 : ∀ x, J1 (8, 0, 0) x = if x = 6 then N i else J (8, 0, 0) x := fun x => by rw [hJ1, setI_ne (by simp), setI_at]
      have o30 : ∀ x, J1 (30, 0, 0) x = if x = i then sepS V (qsl V s none none) k + 1 else J (30, 0, 0) x := fun x => by rw [hJ1, setI_at, setI_ne (by simp)]
      obtain ⟨J', e1, a1, a2, a3, a4, a5⟩ := ih (i + 1) J1 (by omega) (hF.tr (fun o ho => o1 o (by rintro rfl; exact ho sr8) (by rintro rfl; exact ho (sr2 ⟨by decide, by decide⟩)))) (hN.fr (o1 _ (by simp) (by simp)) (o1 _ (by simp) (by simp)) (o1 _ (by simp) (by simp)) (o1 _ (by simp) (by simp)) (o1 _ (by simp) (by simp))) (fun j m hjm => by
        rw [o30, o1 (31, 0, 0) (by simp) (by simp)]
        by_cases hji : j = i
        · subst hji
          rw [hk] at hjm
          cases hjm
          rw [if_pos rfl, if_pos ⟨rfl, by omega⟩]
          exact ⟨rfl, hS9.2⟩
        · rw [if_neg hji]
          have h9 := hS j m hjm
          simp only [show (m = k ∧ j < i + 1) = (m = k ∧ j < i) from propext ⟨fun q => ⟨q.1, by omega⟩, fun q => ⟨q.1, by omega⟩⟩]
          exact h9) (by rw [o8]; exact h5) (fun j m hjm => by
        rw [o8, if_pos rfl, N_inj (by have := (ls_get hjm).1; omega) (by omega)]
        refine propext ⟨fun q => ?_, fun q => ?_⟩
        · subst q
          rw [hk] at hjm
          cases hjm
          exact ⟨rfl, by omega⟩
        · have hm9 : m = k := q.1
          subst hm9
          exact hLi j i m hjm hk)
      refine ⟨J', ?_, a1, a2, a3, a4, a5⟩
      have n30 : setI J (8, 0, 0) 6 (N i) (30, 0, 0) i = sepS V (qsl V s none none) k := by rw [setI_ne (by simp)]; exact hS9.1
      rw [s160_18]
      simp only [m160, s160_0, s160_1, s160_4, s160_5, s160_6, s160_9, s160_10, s160_11, s160_12, s160_15, s160_16, s160_20, s160_21, s160_24, s160_27, s160_30, s160_31, s160_34, s160_37, s160_39, s160_42, s160_43, s160_46, s160_47, s160_49, s160_52, s160_53, s160_56, s160_58, s160_59, s160_62, s160_64, s160_67, s160_68, s160_69, s160_72, s160_75, s160_78, hR.s.1, hR.s.2.2.1, hR.n.2.1, hN.1, N_ge hil (show L.length < 2147483648 by omega), get_N (S := (J, M, R, G)) k27 (fun _ => rfl) (show i < 7 by omega) (by decide), e27, get_N (S := (setI J (8, 0, 0) 6 (N i), M, R, G)) k30 (fun _ => rfl) (show i < 7 by omega) (by decide), n30, put_N (S := (setI J (8, 0, 0) 6 (N i), M, R, G)) (o := (30, 0, 0)) k30 rfl (show i < 7 by omega) (by decide), if_false, if_true, ck_v, ck_x, Option.toList, List.cons_append, List.nil_append, kil_nil, N_1, o10, o00, exN_0, exN_1, exN_2, exN_3, exN_4, exN_5, Ex]
      rw [← hJ1]
      exact e1
    · obtain ⟨J', e1, a1, a2, a3, a4, a5⟩ := ih (i + 1) J (by omega) hF hN (fun j m hjm => by
        have h9 := hS j m hjm
        simp only [show (m = a ∧ j < i + 1) = (m = a ∧ j < i) from propext ⟨fun q => ⟨q.1, by
          have : j ≠ i := by
            intro q2
            subst q2
            rw [hk] at hjm
            cases hjm
            exact hka q.1
          omega⟩, fun q => ⟨q.1, by omega⟩⟩]
        exact h9) h5 (fun j m hjm => by
        rw [h6 j m hjm]
        exact propext ⟨fun q => ⟨q.1, by omega⟩, fun q => ⟨q.1, by
          have : j ≠ i := by
            intro q2
            subst q2
            rw [hk] at hjm
            cases hjm
            exact hka q.1
          omega⟩⟩)
      refine ⟨J', ?_, a1, a2, a3, a4, a5⟩
      have hne : ¬ vf V k 0 = vf V a 0 := fun q => hka (hi k a hkn ha q)
      rw [s160_18]
      simp only [m160, s160_0, s160_1, s160_4, s160_5, s160_6, s160_9, s160_10, s160_11, s160_12, s160_15, s160_16, s160_20, s160_21, s160_24, s160_27, s160_30, s160_31, s160_34, s160_37, s160_39, s160_42, s160_43, s160_46, s160_47, s160_49, s160_52, s160_53, s160_56, s160_58, s160_59, s160_62, s160_64, s160_67, s160_68, s160_69, s160_72, s160_75, s160_78, hR.s.1, hR.s.2.2.1, hR.n.2.1, hN.1, N_ge hil (show L.length < 2147483648 by omega), get_N (S := (J, M, R, G)) k27 (fun _ => rfl) (show i < 7 by omega) (by decide), e27, hne, if_false, if_true, ck_v, ck_x, Option.toList, List.cons_append, List.nil_append, kil_nil, N_1, o10, o00, exN_0, exN_1, exN_2, exN_3, exN_4, exN_5, Ex]
      exact e1
theorem serveComplaint_ok {a s : Nat} (hR : RF R) (hW : WV V) (hV : BV I 0 V) (hs : s < vn V) (ha : a < vn V) (hne : a ≠ s) : ∃ I', evm (d + 7) 160 [aR (8, 0, 0), aR (4, 0, 0), aI (vf V a 0), aI (N s)] (I, M, R, G) = some (.inl none, (I', M, R, G)) ∧ NT I' (upV V a s (vc V a s + 1)) (Ls V (some s)) ∧ SV I' (upV V a s (vc V a s + 1)) (qsl (upV V a s (vc V a s + 1)) s none (some a)) (Ls V (some s)) ∧ FS I I' := by
  have h7 := hV.2.2.1
  have hl7 := ls_7 (e := some s) h7
  obtain ⟨I1, e1, n1, f1⟩ := load_net (d := d + 1) (M := M) (G := G) (e := some s) hR hW hV (fun a h => (by cases h; omega))
  have e1' : evm (d + 6) 33 [aR (6, 0, 0), aR (4, 0, 0), aI (N s)] (I, M, R, G) = some (.inl none, (I1, M, R, G)) := e1
  obtain ⟨I2, e2, n2, s2, w2, h2, f2⟩ := serveLicensed_ok (d := d) (M := M) (G := G) (w := none) (t := none) hR hW (hV.srch f1.fs) hs n1
  obtain ⟨I3, e3, f3, n3, s3, w3, h3⟩ := scLoop (d := d + 1) (M := M) (G := G) (a := a) (s := s) hR hW.2.2.2.2 hl7 ls_m ha (fun i j k => lsl_inj) (Ls V (some s)).length 0 I2 (by omega) FS.rf n2 (fun j m hm => by
    rw [if_neg (by omega)]
    exact s2 j m hm) w2 (fun j m hm => by
    rw [h2, m1N (by have := (ls_get hm).1; omega)]
    exact propext ⟨fun q => q.elim, fun q => by omega⟩)
  refine ⟨I3, ?_, ⟨n3.1, fun i k hk => ?_⟩, ⟨?_, ?_, ?_⟩, (f1.fs.tr f2).tr f3⟩
  · rw [m160]
    simp only [s160_0, s160_1, s160_4, s160_5, s160_6, s160_9, s160_10, s160_11, s160_12, s160_15, s160_16, hR.s.1, e1', e2, if_false, if_true, ck_v, ck_x, Option.toList, List.cons_append, List.nil_append, kil_nil, N_1, o10, o00, exN_0, exN_1, exN_2, exN_3, exN_4, exN_5, Ex]
    exact e3
  · obtain ⟨b1, b2, b3, b4⟩ := n3.2 i k hk
    refine ⟨b1, b2, b3, fun j m hm hji => ?_⟩
    have q1 : k ≠ s := fun q => (lsl_mem.mp (ls_get hk).2).2.2 (by rw [q])
    have q2 : m ≠ s := fun q => (lsl_mem.mp (ls_get hm).2).2.2 (by rw [q])
    rw [spv_up q1 q2]
    exact b4 j m hm hji
  · rw [w3]; rfl
  · intro i k hk
    rw [h3 i k hk]
    exact propext ⟨fun q => by rw [q]; rfl, fun q => by cases q; rfl⟩
  · intro i k hk
    obtain ⟨b1, b2⟩ := s3 i k hk
    rw [b1, sep_up (w' := none) (t' := none) hne (hW.2.2.2.1 a s ha hs).2]
    exact ⟨rfl, b2⟩
end SCPL
