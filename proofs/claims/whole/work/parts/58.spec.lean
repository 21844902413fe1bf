/-! THE METHODS' MEANING: a station more; a field anew; complaints -/
def addB (B : Bk) (x y c e : Int32) (l : Bool) : Bk := ((B.1.1, vn B.1 + 1, (fun k f => if k = vn B.1 then (match f with | 0 => bnext B | 1 => x | 2 => y | 3 => c | _ => e) else vf B.1 k f), (fun k => if k = vn B.1 then l else vl B.1 k), (fun a b => if a = vn B.1 ∨ b = vn B.1 then 0 else vc B.1 a b)), (bday B, bnext B + 1, bexp B, bend B), B.2.2)
/-- field g of station k is v -/
def fdB (B : Bk) (k g : Nat) (v : Int32) : Bk := ((B.1.1, vn B.1, (fun i f => if i = k ∧ f = g then v else vf B.1 i f), B.1.2.2.2), B.2)
/-- station k is licensed -/
def liB (B : Bk) (k : Nat) : Bk := ((B.1.1, vn B.1, B.1.2.2.1, (fun i => if i = k then true else vl B.1 i), B.1.2.2.2.2), B.2)
/-- the complaints of a pair are v -/
def cmpB (B : Bk) (i k : Nat) (v : Int32) : Bk := ((B.1.1, vn B.1, B.1.2.2.1, B.1.2.2.2.1, (fun a b => if a = i ∧ b = k ∨ a = k ∧ b = i then v else vc B.1 a b)), B.2)
def radB (B : Bk) (n m f : Int32) : Bk := (((n, m, f), B.1.2), B.2)
section MODS
variable {d : Nat} {I : OId → Nat → Int32} {M R : OId → Nat → AV} {G : SG} {B : Bk}
def apI (I : OId → Nat → Int32) (n : Nat) (x y e t : Int32) : OId → Nat → Int32 := setI (setI (setI (setI (setI (setI (setI I (4, 0, 0) 4 (I (4, 0, 0) 4 + 1)) (10, 0, n) 0 (I (4, 0, 0) 4 + 1)) (10, 0, n) 1 x) (10, 0, n) 2 y) (10, 0, n) 4 e) (10, 0, n) 5 t) (4, 0, 0) 7 (N (n + 1))
theorem append_ok {x y e t : Int32} (hR : RF R) (h : BA I 0 B) (hn : vn B.1 < 7) (ht : t = 0 ∨ t = 1) : evm (d + 2) 78 [aR (4, 0, 0), aI x, aI y, aI e, aI t] (I, M, R, G) = some (.inl (some (aI (N (vn B.1)))), (apI I (vn B.1) x y e t, M, R, G)) := by
  have n10 : ((4, 0, 0) : OId) ≠ (10, 0, vn B.1) := by simp
  have n4 : ((10, 0, vn B.1) : OId) ≠ (4, 0, 0) := by simp
  have e1 : setI I (4, 0, 0) 4 (I (4, 0, 0) 4 + 1) (4, 0, 0) 4 = I (4, 0, 0) 4 + 1 := by rw [setI_at]; simp
  have e7 : setI I (4, 0, 0) 4 (I (4, 0, 0) 4 + 1) (4, 0, 0) 7 = N (vn B.1) := by rw [setI_at, if_neg (by decide)]; exact h.1.2.1
  simp only [m78, s78_0, s78_1, s78_4, s78_6, s78_7, s78_8, s78_11, s78_12, s78_13, s78_16, s78_17, s78_19, s78_22, s78_24, s78_26, s78_27, s78_30, s78_33, s78_35, s78_36, s78_39, s78_41, s78_42, s78_45, s78_47, s78_48, s78_51, s78_53, s78_55, s78_58, s78_59, s78_60, s78_63, s78_64, s78_65, s78_68, s78_70, h.1.2.1, at_N hR (show 0 < 8 by decide) hn, if_false, if_true, ck_v, ck_x, Option.toList, List.cons_append, List.nil_append, kil_nil, N_1, o10, o00, exN_0, exN_1, exN_2, exN_3, exN_4, exN_5, Ex, setI_ne n10, e1, e7, ht, apI]
theorem append_ba {x y e t : Int32} (h : BA I 0 B) (hn : vn B.1 < 7) : BA (apI I (vn B.1) x y e t) 0 (addB B x y (I (10, 0, vn B.1) 3) e (decide (bb t = 0))) := by
  obtain ⟨⟨⟨r0, r1, r2⟩, hc, h7, hf, hl, hcm⟩, h3, h4, h5, h6, hm, hp, hz⟩ := h
  have e4 : ∀ f, apI I (vn B.1) x y e t (4, 0, 0) f = if f = 7 then N (vn B.1 + 1) else if f = 4 then I (4, 0, 0) 4 + 1 else I (4, 0, 0) f := fun f => by
    unfold apI
    rw [setI_at, setI_ne (by simp), setI_ne (by simp), setI_ne (by simp), setI_ne (by simp), setI_ne (by simp), setI_at]
  have eo : ∀ o : OId, o ≠ (4, 0, 0) → o ≠ (10, 0, vn B.1) → apI I (vn B.1) x y e t o = I o := fun o h1 h2 => by
    unfold apI
    rw [setI_ne h1, setI_ne h2, setI_ne h2, setI_ne h2, setI_ne h2, setI_ne h2, setI_ne h1]
  have en : ∀ f, apI I (vn B.1) x y e t (10, 0, vn B.1) f = if f = 5 then t else if f = 4 then e else if f = 2 then y else if f = 1 then x else if f = 0 then I (4, 0, 0) 4 + 1 else I (10, 0, vn B.1) f := fun f => by
    unfold apI
    rw [setI_ne (by simp), setI_at, setI_at, setI_at, setI_at, setI_at, setI_ne (by simp)]
  refine ⟨⟨⟨?_, ?_, ?_⟩, ?_, ?_, ?_, ?_, ?_⟩, ?_, ?_, ?_, ?_, ?_, ?_, ?_⟩
  · rw [e4, if_neg (by decide), if_neg (by decide)]; exact r0
  · rw [e4, if_neg (by decide), if_neg (by decide)]; exact r1
  · rw [e4, if_neg (by decide), if_neg (by decide)]; exact r2
  · rw [e4, if_pos rfl]
    rfl
  · show vn B.1 + 1 ≤ 7
    omega
  · intro k hk f hf'
    have hk' : k < vn B.1 + 1 := hk
    show _ = if k = vn B.1 then _ else _
    by_cases hkn : k = vn B.1
    · subst hkn
      rw [en, if_pos rfl]
      match f, hf' with
      | 0, _ => simp only [h4]; rfl
      | 1, _ => rfl
      | 2, _ => rfl
      | 3, _ => rfl
      | 4, _ => rfl
    · rw [if_neg hkn, eo (10, 0, k) (by simp) (by simp [hkn])]
      exact hf k (by omega) f hf'
  · intro k hk
    have hk' : k < vn B.1 + 1 := hk
    show _ = if (if k = vn B.1 then _ else _) = true then _ else _
    by_cases hkn : k = vn B.1
    · subst hkn
      rw [en, if_pos rfl, if_pos rfl]
      rcases bb_01 t with q | q <;> rw [q] <;> decide
    · rw [if_neg hkn, eo (10, 0, k) (by simp) (by simp [hkn])]
      exact hl k (by omega)
  · intro a b ha hb
    have ha' : a < vn B.1 + 1 := ha
    have hb' : b < vn B.1 + 1 := hb
    rw [eo (21, 0, 0) (by simp) (by simp)]
    show _ = if a = vn B.1 ∨ b = vn B.1 then _ else _
    by_cases hab : a = vn B.1 ∨ b = vn B.1
    · rw [if_pos hab]
      exact hz a b (by omega) (by omega) (by omega)
    · rw [if_neg hab]
      exact hcm a b (by omega) (by omega)
  · rw [e4, if_neg (by decide), if_neg (by decide)]; exact h3
  · rw [e4, if_neg (by decide), if_pos rfl]
    show I (4, 0, 0) 4 + 1 + 1 = bnext B + 1
    rw [h4]
  · rw [e4, if_neg (by decide), if_neg (by decide)]; exact h5
  · rw [e4, if_neg (by decide), if_neg (by decide)]; exact h6
  · rw [eo (7, 0, 0) (by simp) (by simp)]; exact hm
  · intro m hm
    rw [eo (22, 0, 0) (by simp) (by simp), eo (23, 0, 0) (by simp) (by simp), eo (24, 0, 0) (by simp) (by simp)]
    exact hp m hm
  · intro a b ha hb hab
    have hab' : vn B.1 + 1 ≤ a ∨ vn B.1 + 1 ≤ b := hab
    rw [eo (21, 0, 0) (by simp) (by simp)]
    exact hz a b ha hb (by omega)
theorem apI_ne {n : Nat} {x y e t : Int32} {o : OId} (h1 : o ≠ (4, 0, 0)) (h2 : o ≠ (10, 0, n)) : apI I n x y e t o = I o := by
  unfold apI
  rw [setI_ne h1, setI_ne h2, setI_ne h2, setI_ne h2, setI_ne h2, setI_ne h2, setI_ne h1]
/-- one field of a station -/
theorem fd_ba {k g : Nat} {v : Int32} (h : BA I 0 B) (hg : g < 5) : BA (setI I (10, 0, k) g v) 0 (fdB B k g v) := by
  obtain ⟨⟨hr, hc, h7, hf, hl, hcm⟩, h3, h4, h5, h6, hm, hp, hz⟩ := h
  have eo : ∀ o : OId, o ≠ (10, 0, k) → setI I (10, 0, k) g v o = I o := fun o h1 => setI_ne h1
  refine ⟨⟨?_, ?_, h7, ?_, ?_, ?_⟩, ?_⟩
  · rw [eo (4, 0, 0) (by simp)]; exact hr
  · rw [eo (4, 0, 0) (by simp)]; exact hc
  · intro i hi f hf'
    show setI I (10, 0, k) g v (10, 0, i) f = if i = k ∧ f = g then v else vf B.1 i f
    by_cases hik : i = k
    · subst hik
      rw [setI_at]
      by_cases hfg : f = g
      · rw [if_pos hfg, if_pos ⟨rfl, hfg⟩]
      · rw [if_neg hfg, if_neg (fun q => hfg q.2)]
        exact hf i hi f hf'
    · rw [eo (10, 0, i) (by simp [hik]), if_neg (fun q => hik q.1)]
      exact hf i hi f hf'
  · intro i hi
    by_cases hik : i = k
    · subst hik
      rw [setI_at, if_neg (by omega)]
      exact hl i hi
    · rw [eo (10, 0, i) (by simp [hik])]
      exact hl i hi
  · rw [eo (21, 0, 0) (by simp)]; exact hcm
  · rw [eo (4, 0, 0) (by simp), eo (7, 0, 0) (by simp), eo (22, 0, 0) (by simp), eo (23, 0, 0) (by simp), eo (24, 0, 0) (by simp), eo (21, 0, 0) (by simp)]
    exact ⟨h3, h4, h5, h6, hm, hp, hz⟩
theorem li_ba {k : Nat} (h : BA I 0 B) : BA (setI I (10, 0, k) 5 0) 0 (liB B k) := by
  obtain ⟨⟨hr, hc, h7, hf, hl, hcm⟩, h3, h4, h5, h6, hm, hp, hz⟩ := h
  have eo : ∀ o : OId, o ≠ (10, 0, k) → setI I (10, 0, k) 5 0 o = I o := fun o h1 => setI_ne h1
  refine ⟨⟨?_, ?_, h7, ?_, ?_, ?_⟩, ?_⟩
  · rw [eo (4, 0, 0) (by simp)]; exact hr
  · rw [eo (4, 0, 0) (by simp)]; exact hc
  · intro i hi f hf'
    by_cases hik : i = k
    · subst hik
      rw [setI_at, if_neg (by omega)]
      exact hf i hi f hf'
    · rw [eo (10, 0, i) (by simp [hik])]
      exact hf i hi f hf'
  · intro i hi
    show bb (setI I (10, 0, k) 5 0 (10, 0, i) 5) = if (if i = k then true else vl B.1 i) = true then 0 else 1
    by_cases hik : i = k
    · subst hik
      rw [setI_at, if_pos rfl, if_pos rfl, if_pos rfl]
      rfl
    · rw [eo (10, 0, i) (by simp [hik]), if_neg hik]
      exact hl i hi
  · rw [eo (21, 0, 0) (by simp)]; exact hcm
  · rw [eo (4, 0, 0) (by simp), eo (7, 0, 0) (by simp), eo (22, 0, 0) (by simp), eo (23, 0, 0) (by simp), eo (24, 0, 0) (by simp), eo (21, 0, 0) (by simp)]
    exact ⟨h3, h4, h5, h6, hm, hp, hz⟩
def adI (I : OId → Nat → Int32) (i k : Nat) (v : Int32) : OId → Nat → Int32 := setI (setI I (21, 0, 0) (7 * i + k) v) (21, 0, 0) (7 * k + i) v
theorem addComplaint_ok {i k : Nat} (hR : RF R) (h : BA I 0 B) (hi : i < vn B.1) (hk : k < vn B.1) : evm (d + 3) 159 [aR (4, 0, 0), aI (N i), aI (N k)] (I, M, R, G) = some (.inl none, (adI I i k (vc B.1 i k + 1), M, R, G)) := by
  have h7 := h.1.2.2.1
  have hk21 : kOf (21, 0, 0) = .inr (.int, 49) := rfl
  have hp1 : ∀ {I' : OId → Nat → Int32} {x : Int32}, evm (d + 2) 35 [aR (21, 0, 0), aI (N (7 * i + k)), aI x] (I', M, R, G) = some (.inl none, (setI I' (21, 0, 0) (7 * i + k) x, M, R, G)) := fun {I' x} => put_N (S := (I', M, R, G)) hk21 rfl (by omega) (by decide)
  have hp2 : ∀ {I' : OId → Nat → Int32} {x : Int32}, evm (d + 2) 35 [aR (21, 0, 0), aI (N (7 * k + i)), aI x] (I', M, R, G) = some (.inl none, (setI I' (21, 0, 0) (7 * k + i) x, M, R, G)) := fun {I' x} => put_N (S := (I', M, R, G)) hk21 rfl (by omega) (by decide)
  simp only [m159, s159_0, s159_1, s159_2, s159_3, s159_6, s159_7, s159_8, s159_9, s159_10, s159_13, s159_14, s159_15, s159_18, s159_19, s159_22, s159_23, s159_26, s159_27, s159_28, s159_31, s159_32, s159_35, cmB_ok hR (show 0 < 8 by decide) (show i < 7 by omega) (show k < 7 by omega), h.1.cm hi hk, (hR.b (show 0 < 8 by decide)).2.2.1, pair_N (show i < 7 by omega) (show k < 7 by omega), pair_N (show k < 7 by omega) (show i < 7 by omega), hp1, hp2, if_false, if_true, ck_v, ck_x, Option.toList, List.cons_append, List.nil_append, kil_nil, N_1, o10, o00, exN_0, exN_1, exN_2, exN_3, exN_4, exN_5, Ex, adI]
theorem ad_ba {i k : Nat} {v : Int32} (h : BA I 0 B) (hi : i < vn B.1) (hk : k < vn B.1) : BA (adI I i k v) 0 (cmpB B i k v) := by
  obtain ⟨⟨hr, hc, h7, hf, hl, hcm⟩, h3, h4, h5, h6, hm, hp, hz⟩ := h
  have eo : ∀ o : OId, o ≠ (21, 0, 0) → adI I i k v o = I o := fun o h1 => by
    unfold adI
    rw [setI_ne h1, setI_ne h1]
  have e21 : ∀ f, adI I i k v (21, 0, 0) f = if f = 7 * k + i then v else if f = 7 * i + k then v else I (21, 0, 0) f := fun f => by
    unfold adI
    rw [setI_at, setI_at]
  refine ⟨⟨?_, ?_, h7, ?_, ?_, ?_⟩, ?_⟩
  · rw [eo (4, 0, 0) (by simp)]; exact hr
  · rw [eo (4, 0, 0) (by simp)]; exact hc
  · intro q hq f hf'
    rw [eo (10, 0, q) (by simp)]; exact hf q hq f hf'
  · intro q hq
    rw [eo (10, 0, q) (by simp)]; exact hl q hq
  · intro a b ha hb
    have ha' : a < vn B.1 := ha
    have hb' : b < vn B.1 := hb
    rw [e21]
    show _ = if a = i ∧ b = k ∨ a = k ∧ b = i then v else vc B.1 a b
    by_cases h1 : a = k ∧ b = i
    · rw [if_pos (by rw [h1.1, h1.2]), if_pos (Or.inr h1)]
    · rw [if_neg (by omega)]
      by_cases h2 : a = i ∧ b = k
      · rw [if_pos (by rw [h2.1, h2.2]), if_pos (Or.inl h2)]
      · rw [if_neg (by omega), if_neg (by omega)]
        exact hcm a b ha hb
  · rw [eo (4, 0, 0) (by simp), eo (7, 0, 0) (by simp), eo (22, 0, 0) (by simp), eo (23, 0, 0) (by simp), eo (24, 0, 0) (by simp)]
    refine ⟨h3, h4, h5, h6, hm, hp, fun a b ha hb hab => ?_⟩
    have hab' : vn B.1 ≤ a ∨ vn B.1 ≤ b := hab
    rw [e21, if_neg (by omega), if_neg (by omega)]
    exact hz a b ha hb hab
end MODS
