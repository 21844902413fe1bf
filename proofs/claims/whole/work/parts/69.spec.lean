/-! THE METHODS' MEANING: bits -/
abbrev Lg (m : Nat) : Int64 := Int64.ofNat m
theorem Lg_or (a b : Nat) : Lg a ||| Lg b = Lg (a ||| b) := by
  apply Int64.toBitVec_inj.mp
  show (BitVec.ofNat 64 a ||| BitVec.ofNat 64 b) = BitVec.ofNat 64 (a ||| b)
  rw [BitVec.ofNat_or]
theorem Lg_and (a b : Nat) : Lg a &&& Lg b = Lg (a &&& b) := by
  apply Int64.toBitVec_inj.mp
  show (BitVec.ofNat 64 a &&& BitVec.ofNat 64 b) = BitVec.ofNat 64 (a &&& b)
  rw [BitVec.ofNat_and]
theorem Lg_mod {a b : Nat} (h : a % 256 = b % 256) : Lg a &&& 255 = Lg b &&& 255 := by
  show Lg a &&& Lg 255 = Lg b &&& Lg 255
  rw [Lg_and, Lg_and, show 255 = 2 ^ 8 - 1 from rfl, Nat.and_two_pow_sub_one_eq_mod, Nat.and_two_pow_sub_one_eq_mod]
  exact congrArg Lg h
theorem not255 (x : Int64) : (x ^^^ (-1)) &&& 255 = ((x &&& 255) ^^^ (-1)) &&& 255 := by
  apply Int64.toBitVec_inj.mp
  show ((x.toBitVec ^^^ (-1 : Int64).toBitVec) &&& (255 : Int64).toBitVec) = ((x.toBitVec &&& (255 : Int64).toBitVec) ^^^ (-1 : Int64).toBitVec) &&& (255 : Int64).toBitVec
  apply BitVec.eq_of_getLsbD_eq
  intro i hi
  simp only [BitVec.getLsbD_and, BitVec.getLsbD_xor]
  cases x.toBitVec.getLsbD i <;> cases (-1 : Int64).toBitVec.getLsbD i <;> cases (255 : Int64).toBitVec.getLsbD i <;> rfl
theorem not_tab : ∀ r, r < 256 → ((Lg r ^^^ (-1)) &&& 255).toInt32 = N (255 - r) := by decide +kernel
/-- the channels that are not in m -/
theorem openm {m : Nat} : ((Lg m ^^^ (-1)) &&& 255).toInt32 = N (255 - m % 256) := by
  rw [not255, Lg_mod (show m % 256 = (m % 256) % 256 by omega), ← not255]
  exact not_tab _ (Nat.mod_lt _ (by decide))
theorem not_bit : ∀ r, r < 256 → ∀ c, c < 8 → (255 - r).testBit c = !r.testBit c := by decide +kernel
theorem openm_bit {m c : Nat} (hc : c < 8) : (255 - m % 256).testBit c = !m.testBit c := by
  rw [not_bit _ (Nat.mod_lt _ (by decide)) c hc, show 256 = 2 ^ 8 from rfl, Nat.testBit_mod_two_pow]
  simp [hc]
theorem notw (x : Int64) {w : Nat} (hw : w < 256) : (x ^^^ (-1)) &&& Lg w = ((x ^^^ (-1)) &&& 255) &&& Lg w := by
  have e : Lg w = 255 &&& Lg w := by
    show Lg w = Lg 255 &&& Lg w
    rw [Lg_and]
    refine congrArg Lg ?_
    rw [Nat.and_comm, show 255 = 2 ^ 8 - 1 from rfl, Nat.and_two_pow_sub_one_eq_mod, Nat.mod_eq_of_lt hw]
  calc (x ^^^ (-1)) &&& Lg w = (x ^^^ (-1)) &&& (255 &&& Lg w) := by rw [← e]
    _ = ((x ^^^ (-1)) &&& 255) &&& Lg w := (Int64.and_assoc _ _ _).symm
theorem notL {m : Nat} : (Lg m ^^^ (-1)) &&& 255 = Lg (255 - m % 256) := by
  have t : ∀ r, r < 256 → (Lg r ^^^ (-1)) &&& 255 = Lg (255 - r) := by decide +kernel
  rw [not255, Lg_mod (show m % 256 = (m % 256) % 256 by omega), ← not255]
  exact t _ (Nat.mod_lt _ (by decide))
theorem L2N : ∀ a, a < 256 → (Lg a).toInt32 = N a := by decide +kernel
theorem N2L : ∀ a, a < 256 → (N a).toInt64 = Lg a := by decide +kernel
theorem openw {m w : Nat} (hw : w < 256) : ((Lg m ^^^ (-1)) &&& Lg w).toInt32 = N ((255 - m % 256) &&& w) := by
  rw [notw _ hw, notL, Lg_and]
  exact L2N _ (Nat.lt_of_le_of_lt Nat.and_le_right hw)
/-- the channels whose difference from ch is less than s -/
def smask (ch s : Nat) : Nat := if s = 0 then 0 else (2 ^ (ch + s - 1 - (ch + 1 - s) + 1) - 1) * 2 ^ (ch + 1 - s)
theorem smask_bit : ∀ ch, ch < 56 → ∀ s, s < 6 → ∀ c, c < 62 → (smask ch s).testBit c = decide ((if ch < c then c - ch else ch - c) < s) := by decide +kernel
theorem smask_lt : ∀ ch, ch < 56 → ∀ s, s < 6 → smask ch s < 2 ^ 62 := by decide +kernel
def shb (c s : Int32) : Int64 := if 0 < s then (((1 : Int64) <<< (((c + s - 1) - (if 0 < c - s + 1 then c - s + 1 else 0) + 1).toInt64 &&& 63)) - 1) <<< ((if 0 < c - s + 1 then c - s + 1 else 0).toInt64 &&& 63) else 0
theorem shb_N : ∀ ch, ch < 56 → ∀ s, s < 6 → shb (N ch) (N s) = Lg (smask ch s) := by decide +kernel
theorem shutBy_ok {d : Nat} {c s : Int32} {S : SS} : evm (d + 1) 44 [aI c, aI s] S = some (.inl (some (aL (shb c s))), S) := by
  unfold shb
  by_cases h : 0 < s
  · rw [if_pos h]
    simp only [m44, s44_0, s44_1, s44_4, s44_5, s44_6, s44_7, s44_8, s44_9, s44_10, s44_11, s44_12, s44_15, s44_16, s44_17, s44_18, s44_19, s44_20, s44_21, s44_22, s44_23, s44_24, s44_25, s44_26, s44_27, s44_28, s44_29, s44_30, s44_31, s44_32, s44_33, if_pos h, kil_nil]
  · rw [if_neg h]
    simp only [m44, s44_0, s44_1, s44_4, s44_5, s44_6, s44_7, s44_8, s44_9, s44_10, s44_11, s44_12, s44_15, s44_16, s44_17, s44_18, s44_19, s44_20, s44_21, s44_22, s44_23, s44_24, s44_25, s44_26, s44_27, s44_28, s44_29, s44_30, s44_31, s44_32, s44_33, if_neg h, kil_nil]
theorem sh_tab : ∀ c, c < 64 → ((N c).toInt64 &&& 63) = Lg c := by decide +kernel
theorem has_bit {m c : Nat} (hm : m < 2 ^ 63) (hc : c < 63) : ((Lg m >>> Lg c) &&& 1 = 1) = (m.testBit c = true) := by
  have e : (Lg m >>> Lg c).toBitVec = (BitVec.ofNat 64 m).sshiftRight c := by
    rw [Int64.toBitVec_shiftRight]
    show (BitVec.ofNat 64 m).sshiftRight' ((BitVec.ofNat 64 c).smod 64#64) = _
    have t : ∀ c, c < 63 → ((BitVec.ofNat 64 c).smod 64#64).toNat = c := by decide +kernel
    rw [BitVec.sshiftRight', t c hc]
  have e1 : (((Lg m >>> Lg c) &&& 1).toBitVec) = ((BitVec.ofNat 64 m).sshiftRight c) &&& 1#64 := by
    rw [← e]
    rfl
  have e2 : ((BitVec.ofNat 64 m).sshiftRight c).getLsbD 0 = m.testBit c := by
    rw [BitVec.getLsbD_sshiftRight]
    have h1 : c < 64 := by omega
    rw [show decide (64 ≤ 0) = false from rfl, Nat.add_zero, if_pos h1, BitVec.getLsbD_ofNat, decide_eq_true h1]
    rfl
  refine propext ⟨fun h => ?_, fun h => ?_⟩
  · have h3 := congrArg Int64.toBitVec h
    rw [e1, BitVec.and_one_eq_setWidth_ofBool_getLsbD, e2] at h3
    cases hb : m.testBit c with
    | true => rfl
    | false =>
      rw [hb] at h3
      exact absurd h3 (by decide)
  · refine Int64.toBitVec_inj.mp ?_
    rw [e1, BitVec.and_one_eq_setWidth_ofBool_getLsbD, e2, h]
    rfl
theorem has_ok {d m c : Nat} {S : SS} (hm : m < 2 ^ 63) (hc : c < 63) : evm (d + 1) 42 [aL (Lg m), aI (N c)] S = some (.inl (some (aI (if m.testBit c = true then 1 else 0))), S) := by
  have ec : ((N c).toInt64 &&& 63) = Lg c := sh_tab c (by omega)
  by_cases h : m.testBit c = true
  · have hb : (Lg m >>> Lg c) &&& 1 = 1 := by rw [has_bit hm hc]; exact h
    have hl : ((1 : Int64) < 1) = False := by decide
    rw [if_pos h]
    simp only [m42, s42_0, s42_1, s42_2, s42_3, s42_4, s42_5, s42_6, s42_7, s42_10, s42_11, s42_14, s42_15, s42_0 (L2 := [(0, aL (Lg m))]) (x := Lg m) rfl, ec, hb, hl, if_false, if_true, o00, or_true]
  · have hb : ¬ (Lg m >>> Lg c) &&& 1 = 1 := by rw [has_bit hm hc]; exact h
    rw [if_neg h]
    have hz : ((if (Lg m >>> Lg c) &&& 1 < 1 then (-1 : Int32) else 1) = 0) = False := by
      split <;> decide
    simp only [m42, s42_0, s42_1, s42_2, s42_3, s42_4, s42_5, s42_6, s42_7, s42_10, s42_11, s42_14, s42_15, s42_0 (L2 := [(0, aL (Lg m))]) (x := Lg m) rfl, ec, hb, if_false, if_true, hz, o00, true_or]
theorem clr_tab : ∀ a, a < 256 → ∀ f, f < 8 → (N a &&& ((1 : Int32) <<< (N f &&& 31) ^^^ (-1))) = N (a &&& (255 - 2 ^ f)) := by decide +kernel
theorem clr_bit : ∀ a, a < 256 → ∀ f, f < 8 → ∀ c, c < 8 → (a &&& (255 - 2 ^ f)).testBit c = (a.testBit c && decide (c ≠ f)) := by decide +kernel
theorem one_tab : ∀ f, f < 8 → (1 : Int32) <<< (N f &&& 31) = N (2 ^ f) := by decide +kernel
theorem zero_bits : ∀ a, a < 256 → (a = 0 ↔ ∀ c, c < 8 → a.testBit c = false) := by decide +kernel
