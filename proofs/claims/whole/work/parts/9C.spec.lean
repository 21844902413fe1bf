/-! THE METHODS' MEANING: what always holds of the books -/
theorem nn_N {v : Int32} (h : ¬ v < 0) : ∃ a, a < 2147483648 ∧ v = N a := ⟨v.toNatClampNeg, Int32.toNatClampNeg_lt v, (Int32.ofNat_toNatClampNeg v (Int32.not_lt.mp h)).symm⟩
theorem rg_N {v : Int32} {b : Nat} (hb : b < 2147483648) (h : rg v 0 (N b)) : ∃ a, a ≤ b ∧ v = N a := by
  obtain ⟨a, a1, rfl⟩ := nn_N h.1
  have h2 := h.2
  rw [N_lt hb a1] at h2
  exact ⟨a, by omega, rfl⟩
theorem rg1_N {v : Int32} {b : Nat} (hb : b < 2147483648) (h : rg v 1 (N b)) : ∃ a, 1 ≤ a ∧ a ≤ b ∧ v = N a := by
  have h0 : ¬ v < 0 := by
    intro q
    apply h.1
    simp only [Int32.lt_iff_toInt_lt] at q ⊢
    have e1 : (1 : Int32).toInt = 1 := by decide
    have e2 : (0 : Int32).toInt = 0 := by decide
    omega
  obtain ⟨a, a1, rfl⟩ := nn_N h0
  have h1 := h.1
  have h2 := h.2
  rw [N_lt hb a1] at h2
  have h3 : ¬ N a < N 1 := h1
  rw [N_lt a1 (by omega)] at h3
  exact ⟨a, by omega, by omega, rfl⟩
def OB (t : Nat) (B : Bk) : Prop := WV B.1 ∧ (∃ z, z ≤ t ∧ bnext B = N z ∧ ∀ k, k < vn B.1 → ∃ i, i < z ∧ vf B.1 k 0 = N i) ∧ (∃ x, x ≤ 999 ∧ bday B = N x) ∧ (∀ k, k < vn B.1 → ∃ e, e < 1400 ∧ vf B.1 k 4 = N e) ∧ (bmov B = -1 ∨ ∃ m, m ≤ 2 ∧ bmov B = N m)
section OBS
variable {t : Nat} {B : Bk}
theorem OB.le {t' : Nat} (h : OB t B) (ht : t ≤ t') : OB t' B := by
  obtain ⟨h1, ⟨z, z1, z2⟩, h3⟩ := h
  exact ⟨h1, ⟨z, by omega, z2⟩, h3⟩
theorem OB.rem {p : Nat} (h : OB t B) (hp : p < vn B.1) : OB t (remB B p) := by
  obtain ⟨h1, ⟨z, z1, z2, z3⟩, h3, h4, h5⟩ := h
  have hs : ∀ k, k < vn B.1 - 1 → sh p k < vn B.1 := fun k hk => by unfold sh; split <;> omega
  exact ⟨wv_rem h1 hp, ⟨z, z1, z2, fun k hk => z3 (sh p k) (hs k hk)⟩, h3, fun k hk => h4 (sh p k) (hs k hk), h5⟩
theorem OB.ndl : ∀ (i : Nat) (B : Bk), OB t B → i ≤ vn B.1 → OB t (ndL i B) ∧ bday (ndL i B) = bday B
  | 0, B, h, _ => ⟨h, rfl⟩
  | i + 1, B, h, hi => by
    show OB t (ndL i (if vf B.1 i 4 = bday B then expB (remB B i) else B)) ∧ bday (ndL i (if vf B.1 i 4 = bday B then expB (remB B i) else B)) = bday B
    split
    · have h2 : OB t (expB (remB B i)) := h.rem (by omega)
      exact OB.ndl i _ h2 (by show i ≤ vn B.1 - 1; omega)
    · exact OB.ndl i B h (by omega)
theorem OB.ndn : ∀ (n : Nat) (B : Bk), OB t B → (∃ x, x + n ≤ 999 ∧ bday B = N x) → OB t (ndN n B)
  | 0, B, h, _ => h
  | n + 1, B, h, hd => by
    obtain ⟨x, x1, x2⟩ := hd
    obtain ⟨h1, h2, h3, h4, h5⟩ := h
    have hb : bday (dayB B) = N (x + 1) := by
      show bday B + 1 = _
      rw [x2, N_1]
    have hD : OB t (dayB B) := ⟨h1, h2, ⟨x + 1, by omega, hb⟩, h4, h5⟩
    obtain ⟨g1, g2⟩ := OB.ndl (vn B.1) (dayB B) hD (Nat.le_refl _)
    exact OB.ndn n (ndB B) g1 ⟨x + 1, by omega, g2.trans hb⟩
theorem OB.etl : ∀ (i : Nat) (B : Bk), OB t B → i ≤ vn B.1 → OB t (etL i B)
  | 0, B, h, _ => h
  | i + 1, B, h, hi => by
    show OB t (etL i (if vl B.1 i = false ∧ fs (way B.1 i) (vn B.1) < vn B.1 then endB (remB B i) else B))
    split
    · have h2 : OB t (endB (remB B i)) := h.rem (by omega)
      exact OB.etl i _ h2 (by show i ≤ vn B.1 - 1; omega)
    · exact OB.etl i B h (by omega)
theorem OB.rad {a b c : Nat} (h : OB t B) (hab : a ≤ b) (hbc : b ≤ c) (hc : c ≤ 200) : OB t (radB B (N a) (N b) (N c)) := by
  obtain ⟨⟨g1, g2, g3, g4, g5⟩, h2, h3, h4, h5⟩ := h
  exact ⟨⟨⟨a, b, c, rfl, rfl, rfl, hab, hbc, hc⟩, g2, g3, g4, g5⟩, h2, h3, h4, h5⟩
theorem fd_ne {i k g f : Nat} {v : Int32} (h : f ≠ g) : vf (fdB B k g v).1 i f = vf B.1 i f := if_neg (fun q => h q.2)
theorem OB.ex {k e : Nat} (h : OB t B) (he : e < 1400) : OB t (fdB B k 4 (N e)) := by
  obtain ⟨⟨g1, g2, g3, g4, g5⟩, ⟨z, z1, z2, z3⟩, h3, h4, h5⟩ := h
  refine ⟨⟨g1, g2, fun i hi => ?_, g4, fun a b ha hb q => g5 a b ha hb ((fd_ne (by decide)).symm.trans (q.trans (fd_ne (by decide))))⟩, ⟨z, z1, z2, fun i hi => ?_⟩, h3, fun i hi => ?_, h5⟩
  · obtain ⟨⟨x, x1, x2⟩, ⟨y, y1, y2⟩, c, c1, c2⟩ := g3 i hi
    exact ⟨⟨x, x1, (fd_ne (by decide)).trans x2⟩, ⟨y, y1, (fd_ne (by decide)).trans y2⟩, c, c1, (fd_ne (by decide)).trans c2⟩
  · obtain ⟨j, j1, j2⟩ := z3 i hi
    exact ⟨j, j1, (fd_ne (by decide)).trans j2⟩
  · by_cases hik : i = k
    · exact ⟨e, he, if_pos ⟨hik, rfl⟩⟩
    · obtain ⟨e', e1, e2⟩ := h4 i hi
      exact ⟨e', e1, (if_neg (fun q => hik q.1) : vf (fdB B k 4 (N e)).1 i 4 = vf B.1 i 4).trans e2⟩
theorem OB.ch {k c : Nat} (h : OB t B) (hc : c < 8) : OB t (fdB B k 3 (N c)) := by
  obtain ⟨h1, ⟨z, z1, z2, z3⟩, h3, h4, h5⟩ := h
  refine ⟨wv_ch h1 hc, ⟨z, z1, z2, fun i hi => ?_⟩, h3, fun i hi => ?_, h5⟩
  · obtain ⟨j, j1, j2⟩ := z3 i hi
    exact ⟨j, j1, (fd_ne (by decide)).trans j2⟩
  · obtain ⟨e, e1, e2⟩ := h4 i hi
    exact ⟨e, e1, (fd_ne (by decide)).trans e2⟩
theorem OB.mv : ∀ (ms : List (Nat × Nat)) (B : Bk), OB t B → (∀ m, m ∈ ms → m.2 < 8) → OB t (mvB B ms)
  | [], B, h, _ => h
  | m :: ms, B, h, hm => OB.mv ms (fdB B m.1 3 (N m.2)) (h.ch (hm m List.mem_cons_self)) (fun m' hm' => hm m' (List.mem_cons_of_mem _ hm'))
theorem OB.plan {m : Nat} {p : Nat → Int32} (h : OB t B) (hm : m ≤ 2) : OB t (planB B (N m) p) := by
  obtain ⟨h1, h2, h3, h4, h5⟩ := h
  exact ⟨h1, h2, h3, h4, Or.inr ⟨m, hm, rfl⟩⟩
theorem OB.li {k : Nat} (h : OB t B) : OB t (liB B k) := by
  obtain ⟨⟨g1, g2, g3, g4, g5⟩, h2, h3, h4, h5⟩ := h
  exact ⟨⟨g1, g2, g3, g4, g5⟩, h2, h3, h4, h5⟩
theorem OB.cmp {i k q : Nat} (h : OB t B) (hq : q ≤ 2) : OB t (cmpB B i k (N q)) := by
  obtain ⟨⟨g1, g2, g3, g4, g5⟩, h2, h3, h4, h5⟩ := h
  refine ⟨⟨g1, g2, g3, fun a b ha hb => ?_, g5⟩, h2, h3, h4, h5⟩
  show (∃ q', q' ≤ 2 ∧ (if a = i ∧ b = k ∨ a = k ∧ b = i then N q else vc B.1 a b) = N q') ∧ (if a = i ∧ b = k ∨ a = k ∧ b = i then N q else vc B.1 a b) = (if b = i ∧ a = k ∨ b = k ∧ a = i then N q else vc B.1 b a)
  by_cases h9 : a = i ∧ b = k ∨ a = k ∧ b = i
  · have h8 : b = i ∧ a = k ∨ b = k ∧ a = i := by omega
    rw [if_pos h9, if_pos h8]
    exact ⟨⟨q, hq, rfl⟩, rfl⟩
  · have h8 : ¬ (b = i ∧ a = k ∨ b = k ∧ a = i) := by omega
    rw [if_neg h9, if_neg h8]
    exact g4 a b ha hb
theorem OB.add {x y c e : Nat} {l : Bool} (h : OB t B) (hv : vn B.1 < 7) (hx : x < 100) (hy : y < 100) (hc : c < 8) (he : e < 1400) (ht : t < 1000000) : OB (t + 1) (addB B (N x) (N y) (N c) (N e) l) := by
  obtain ⟨⟨g1, g2, g3, g4, g5⟩, ⟨z, z1, z2, z3⟩, h3, h4, h5⟩ := h
  have fo : ∀ i f, i ≠ vn B.1 → vf (addB B (N x) (N y) (N c) (N e) l).1 i f = vf B.1 i f := fun i f hi => if_neg hi
  have f0 : vf (addB B (N x) (N y) (N c) (N e) l).1 (vn B.1) 0 = N z := (if_pos rfl : vf (addB B (N x) (N y) (N c) (N e) l).1 (vn B.1) 0 = bnext B).trans z2
  have f1 : vf (addB B (N x) (N y) (N c) (N e) l).1 (vn B.1) 1 = N x := if_pos rfl
  have f2 : vf (addB B (N x) (N y) (N c) (N e) l).1 (vn B.1) 2 = N y := if_pos rfl
  have f3 : vf (addB B (N x) (N y) (N c) (N e) l).1 (vn B.1) 3 = N c := if_pos rfl
  have f4 : vf (addB B (N x) (N y) (N c) (N e) l).1 (vn B.1) 4 = N e := if_pos rfl
  have old : ∀ i, i < vn B.1 + 1 → i ≠ vn B.1 → i < vn B.1 := fun i hi hne => by omega
  refine ⟨⟨g1, by show vn B.1 + 1 ≤ 7; omega, fun i hi => ?_, fun a b ha hb => ?_, fun a b ha hb q => ?_⟩, ⟨z + 1, by omega, ?_, fun i hi => ?_⟩, h3, fun i hi => ?_, h5⟩
  · by_cases hn : i = vn B.1
    · rw [hn]
      exact ⟨⟨x, hx, f1⟩, ⟨y, hy, f2⟩, c, hc, f3⟩
    · rw [fo i 1 hn, fo i 2 hn, fo i 3 hn]
      exact g3 i (old i hi hn)
  · show (∃ q', q' ≤ 2 ∧ (if a = vn B.1 ∨ b = vn B.1 then 0 else vc B.1 a b) = N q') ∧ (if a = vn B.1 ∨ b = vn B.1 then 0 else vc B.1 a b) = (if b = vn B.1 ∨ a = vn B.1 then 0 else vc B.1 b a)
    by_cases h9 : a = vn B.1 ∨ b = vn B.1
    · rw [if_pos h9, if_pos h9.symm]
      exact ⟨⟨0, by omega, rfl⟩, rfl⟩
    · rw [if_neg h9, if_neg (fun q => h9 q.symm)]
      exact g4 a b (old a ha (fun q => h9 (Or.inl q))) (old b hb (fun q => h9 (Or.inr q)))
  · by_cases ha9 : a = vn B.1
    · by_cases hb9 : b = vn B.1
      · rw [ha9, hb9]
      · exfalso
        rw [ha9, f0, fo b 0 hb9] at q
        obtain ⟨j, j1, j2⟩ := z3 b (old b hb hb9)
        rw [j2, N_inj (by omega) (by omega)] at q
        omega
    · by_cases hb9 : b = vn B.1
      · exfalso
        rw [hb9, f0, fo a 0 ha9] at q
        obtain ⟨j, j1, j2⟩ := z3 a (old a ha ha9)
        rw [j2, N_inj (by omega) (by omega)] at q
        omega
      · rw [fo a 0 ha9, fo b 0 hb9] at q
        exact g5 a b (old a ha ha9) (old b hb hb9) q
  · show bnext B + 1 = _
    rw [z2, N_1]
  · by_cases hn : i = vn B.1
    · rw [hn]
      exact ⟨z, by omega, f0⟩
    · obtain ⟨j, j1, j2⟩ := z3 i (old i hi hn)
      exact ⟨j, by omega, (fo i 0 hn).trans j2⟩
  · by_cases hn : i = vn B.1
    · rw [hn]
      exact ⟨e, he, f4⟩
    · obtain ⟨e', e1, e2⟩ := h4 i (old i hi hn)
      exact ⟨e', e1, (fo i 4 hn).trans e2⟩
end OBS
