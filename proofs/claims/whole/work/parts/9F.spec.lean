/-! THE METHODS' MEANING: the law's state, and how a call moves it -/
/-- the text: the class's builder and the model's String hold the same -/
def TT (S : SS) : Prop := ∃ k n q kk s, TX S (1, 0, 0) k n s ∧ k < nq S ∧ S.2.1 (12, 0, 0) 16 = aR (0, q, 2) ∧ txM S (0, q, 2) kk s ∧ kk < nq S ∧ q < nq S ∧ kk ≠ k ∧ s.length ≤ 18
def FZ (I I' : OId → Nat → Int32) : Prop := ∀ o, ¬ crO o → ¬ srO o → ¬ mdO o → I' o = I o
def FW (M M' : OId → Nat → AV) : Prop := ∀ o, o ≠ (42, 0, 0) → o ≠ (43, 0, 0) → o ≠ (34, 0, 0) → M' o = M o
def GE (G G' : SG) : Prop := G'.2.1 = G.2.1 ∧ G'.2.2.1 = G.2.2.1 ∧ G'.2.2.2.1 ≤ G.2.2.2.1 + 1 ∧ G'.2.2.2.2.1 ≤ G.2.2.2.2.1 + 6 ∧ G'.2.2.2.2.2 = G.2.2.2.2.2
def bG (G : SG) : SG := (G.1, G.2.1, G.2.2.1, G.2.2.2.1 + 1, G.2.2.2.2.1 + 6, G.2.2.2.2.2)
def lawI (t : Nat) (xs : Nat → Int32) (S : SS) (B : Bk) (hs : List Bk) (sn : Option Bk) : Prop :=
  (RF S.2.2.1 ∧ CR S.1 B hs sn ∧ MR S.1 B hs sn) ∧ (OB t B ∧ (∀ b, b ∈ hs → OB t b) ∧ ∀ b, sn = some b → OB t b) ∧ Z0 S.2.1 ∧ TT S ∧ nms S = [] ∧ (cel S ≤ 1000 + 40 * t ∧ slo S ≤ 30000 + 1600 * t) ∧ xsS S = xs
theorem tx_n {o : OId} (h : o.1 < 2 ∨ o.1 = 60) : ¬ crO o ∧ ¬ srO o ∧ ¬ mdO o := by
  refine ⟨?_, ?_, ?_⟩
  · intro q
    rcases q with ⟨j, hj, h1, h2⟩ | q | q
    · omega
    · rw [q] at h
      simp at h
    · rw [q] at h
      simp at h
  · intro q
    unfold srO at q
    omega
  · intro q
    unfold mdO at q
    omega
theorem md_n {o : OId} (h : mdO o) : ¬ crO o ∧ ¬ srO o := by
  unfold mdO at h
  refine ⟨?_, ?_⟩
  · intro q
    rcases q with ⟨j, hj, h1, h2⟩ | q | q
    · omega
    · rw [q] at h
      simp at h
    · rw [q] at h
      simp at h
  · intro q
    unfold srO at q
    omega
theorem cr_md {o : OId} (h : crO o) : ¬ mdO o := fun q => (md_n q).1 h
theorem fz_am {I I1 I2 : OId → Nat → Int32} (h : FA I I1) (h' : FM I1 I2) : FZ I I2 := fun o a b c => (h' o c).trans (h o a b)
theorem ge_r {G : SG} : GE G G := ⟨rfl, rfl, Nat.le_add_right _ _, Nat.le_add_right _ _, rfl⟩
theorem ge_b {G : SG} : GE G (bG G) := ⟨rfl, rfl, Nat.le_refl _, Nat.le_refl _, rfl⟩
theorem fw_r {M : OId → Nat → AV} : FW M M := fun _ _ _ _ => rfl
theorem fw_42 {M : OId → Nat → AV} {v : AV} : FW M (setV M (42, 0, 0) 0 v) := fun _ a _ _ => setV_o a
theorem fw_43 {M : OId → Nat → AV} {v : AV} : FW M (setV M (43, 0, 0) 0 v) := fun _ _ a _ => setV_o a
theorem z_42 {M : OId → Nat → AV} {v : AV} (h : Z0 M) : Z0 (setV M (42, 0, 0) 0 v) := fun x hx => by rw [setV_o (by simp)]; exact h x hx
theorem z_43 {M : OId → Nat → AV} {v : AV} (h : Z0 M) : Z0 (setV M (43, 0, 0) 0 v) := fun x hx => by rw [setV_o (by simp)]; exact h x hx
section LSTATE
variable {d i L t : Nat} {xs : Nat → Int32} {I I' I1 I2 : OId → Nat → Int32} {M M' R : OId → Nat → AV} {G G' : SG} {B B' : Bk} {hs hs' : List Bk} {sn sn' : Option Bk}
theorem TT.fr (h : TT (I, M, R, G)) (f : FZ I I') (g : FW M M') (e : G'.2.1 = G.2.1) : TT (I', M', R, G') := by
  obtain ⟨k, n, q, kk, s, h1, h2, h3, h4, h5, h6, h7, h8⟩ := h
  have fi : ∀ o : OId, o.1 < 2 ∨ o.1 = 60 → I' o = I o := fun o ho => f o (tx_n ho).1 (tx_n ho).2.1 (tx_n ho).2.2
  have fm : ∀ o : OId, o.1 < 13 → M' o = M o := fun o ho => g o (by rintro rfl; simp at ho) (by rintro rfl; simp at ho) (by rintro rfl; simp at ho)
  have hq : nq (I', M', R, G') = nq (I, M, R, G) := e
  refine ⟨k, n, q, kk, s, ?_, by rw [hq]; exact h2, ?_, ?_, by rw [hq]; exact h5, by rw [hq]; exact h6, h7, h8⟩
  · obtain ⟨a1, a2, a3, a4, a5, a6⟩ := h1
    refine ⟨?_, a2, a3, ?_, ?_, fun i hi => ?_⟩
    · show M' (1, 0, 0) 0 = _
      rw [fm _ (by simp)]
      exact a1
    · show I' (1, 0, 0) 1 = _
      rw [fi _ (by simp)]
      exact a4
    · show I' (1, 0, 0) 3 = _
      rw [fi _ (by simp)]
      exact a5
    · show I' (60, k, n) i = _ ∧ _
      rw [fi _ (by simp)]
      exact a6 i hi
  · show M' (12, 0, 0) 16 = _
    rw [fm _ (by simp)]
    exact h3
  · exact h4.fr (fi _ (by simp)) (fm _ (by simp)) (fi _ (by simp))
theorem lawI.step (h : lawI t xs (I, M, R, G) B hs sn) (f : FZ I I') (g : FW M M') (hZ : Z0 M') (e : GE G G') (hC : CR I' B' hs' sn') (hM : MR I' B' hs' sn') (o : OB (t + 1) B' ∧ (∀ b, b ∈ hs' → OB (t + 1) b) ∧ ∀ b, sn' = some b → OB (t + 1) b) : lawI (t + 1) xs (I', M', R, G') B' hs' sn' := by
  obtain ⟨⟨hR, -, -⟩, -, -, hT, hn, ⟨hc, hs⟩, hx⟩ := h
  obtain ⟨e1, e2, e3, e4, e5⟩ := e
  refine ⟨⟨hR, hC, hM⟩, o, hZ, hT.fr f g e1, e2.trans hn, ⟨?_, ?_⟩, e5.trans hx⟩
  · have h9 : G.2.2.2.1 ≤ 1000 + 40 * t := hc
    show G'.2.2.2.1 ≤ 1000 + 40 * (t + 1)
    omega
  · have h9 : G.2.2.2.2.1 ≤ 30000 + 1600 * t := hs
    show G'.2.2.2.2.1 ≤ 30000 + 1600 * (t + 1)
    omega
theorem cr_m (h : CR I B hs sn) (f : FM I I') : CR I' B hs sn := h.fr (fun o ho => f o (cr_md ho))
theorem mr_a (h : MR I B hs sn) (f : FA I I') : MR I' B hs sn := by
  have g : ∀ o, mdO o → I' o = I o := fun o ho => f o (md_n ho).1 (md_n ho).2
  have g12 : I' (12, 0, 0) = I (12, 0, 0) := g _ (Or.inl rfl)
  exact h.fr (g _ (Or.inr ⟨by decide, by decide⟩)) (g _ (Or.inr ⟨by decide, by decide⟩)) (g _ (Or.inr ⟨by decide, by decide⟩)) (by rw [g12]) (by rw [g12])
theorem kph_in {b : Bk} (h : b ∈ kph B hs) : b = B ∨ b ∈ hs := by
  have h9 := List.mem_of_mem_take h
  exact List.mem_cons.mp h9
theorem ob_k (h : lawI t xs (I, M, R, G) B hs sn) (o : OB (t + 1) B') : OB (t + 1) B' ∧ (∀ b, b ∈ kph B hs → OB (t + 1) b) ∧ ∀ b, sn = some b → OB (t + 1) b := by
  obtain ⟨-, ⟨h1, h2, h3⟩, -⟩ := h
  refine ⟨o, fun b hb => ?_, fun b hb => (h3 b hb).le (by omega)⟩
  rcases kph_in hb with rfl | hb
  · exact h1.le (by omega)
  · exact (h2 b hb).le (by omega)
theorem ob_0 (h : lawI t xs (I, M, R, G) B hs sn) : OB (t + 1) B ∧ (∀ b, b ∈ hs → OB (t + 1) b) ∧ ∀ b, sn = some b → OB (t + 1) b := by
  obtain ⟨-, ⟨h1, h2, h3⟩, -⟩ := h
  exact ⟨h1.le (by omega), fun b hb => (h2 b hb).le (by omega), fun b hb => (h3 b hb).le (by omega)⟩
/-- a call that answers: the class's state I1, the model's I2 -/
theorem fin_v {v : AV} (h : lawI t xs (I, M, R, G) B hs sn) (f1 : FA I I1) (f2 : FM I1 I2) (hC : CR I1 B' hs' sn') (hM : MR I2 B' hs' sn') (o : OB (t + 1) B' ∧ (∀ b, b ∈ hs' → OB (t + 1) b) ∧ ∀ b, sn' = some b → OB (t + 1) b) : lawI (t + 1) xs (I2, setV M (42, 0, 0) 0 v, R, G) B' hs' sn' := h.step (fz_am f1 f2) fw_42 (z_42 h.2.2.1) ge_r (cr_m hC f2) hM o
theorem fin_x (h : lawI t xs (I, M, R, G) B hs sn) (f1 : FA I I1) (f2 : FM I1 I2) (hC : CR I1 B' hs' sn') (hM : MR I2 B' hs' sn') (o : OB (t + 1) B' ∧ (∀ b, b ∈ hs' → OB (t + 1) b) ∧ ∀ b, sn' = some b → OB (t + 1) b) : lawI (t + 1) xs (I2, M, R, bG G) B' hs' sn' := h.step (fz_am f1 f2) fw_r h.2.2.1 ge_b (cr_m hC f2) hM o
theorem fin_p (h : lawI t xs (I, M, R, G) B hs sn) (f1 : FA I I1) (f2 : FM I1 I2) (hC : CR I1 B' hs' sn') (hM : MR I2 B' hs' sn') (o : OB (t + 1) B' ∧ (∀ b, b ∈ hs' → OB (t + 1) b) ∧ ∀ b, sn' = some b → OB (t + 1) b) : lawI (t + 1) xs (I2, M, R, G) B' hs' sn' := h.step (fz_am f1 f2) fw_r h.2.2.1 ge_r (cr_m hC f2) hM o
theorem rd_v {v : AV} {c : Int32} (h : lawI t xs (I, M, R, G) B hs sn) : lawI (t + 1) xs (thr I c, setV M (42, 0, 0) 0 v, R, G) B hs sn := fin_v h FA.rf thr_fm h.1.2.1 h.1.2.2.th (ob_0 h)
theorem rd_x {c : Int32} (h : lawI t xs (I, M, R, G) B hs sn) : lawI (t + 1) xs (thr I c, M, R, bG G) B hs sn := fin_x h FA.rf thr_fm h.1.2.1 h.1.2.2.th (ob_0 h)
theorem rd_p {c : Int32} (h : lawI t xs (I, M, R, G) B hs sn) : lawI (t + 1) xs (thr I c, M, R, G) B hs sn := fin_p h FA.rf thr_fm h.1.2.1 h.1.2.2.th (ob_0 h)
theorem thr_e {kc : Int32} (h7 : I (12, 0, 0) 7 = kc) : evm (d + 20) 215 [aR (12, 0, 0)] (I, M, R, G) = some (.inl (some (aI kc)), (I, M, R, G)) := by
  have h9 := thrown_ok (d := d + 19) (I := I) (M := M) (R := R) (G := G)
  rw [h7] at h9
  exact h9
/-- a call of the law goes through -/
def goC (d L i pc t : Nat) (xs : Nat → Int32) (S : SS) : Prop := ∃ S2 B2 h2 s2, lawI (t + 1) xs S2 B2 h2 s2 ∧ Nx d L i pc S S2
end LSTATE
