/-- the texts of the class's exceptions, by their places -/
def exS : List (Nat × String) := [(66, "a station exists"), (122, "every channel conflicts"), (141, "the station is licensed"), (150, "the licence would run too long"), (156, "the days end before"), (220, "there are no licensed stations"), (261, "there was no plan so far"), (326, "there is no such character"), (336, "nothing can be undone"), (344, "there is no snapshot"), (351, "an argument is out of range"), (354, "the station is on trial"), (356, "there is no room for a station"), (358, "there is no such position"), (360, "there is no such move"), (362, "the station has this channel"), (364, "the stations are too far apart"), (366, "no more complaints are upheld"), (368, "no station has this id"), (370, "both ids are the same"), (376, "there is no plan")]
/-! every instruction of the table is the code's, and the words that it rests on are there -/
def clC (c : Nat) : vw_C := vwCl.getD c (RJ0, TJ0, 0)
def iln (i : Instr) (n : Nat) : Nat := match i with
  | .tableswitch _ _ _ _ => n
  | .bipush _ => 2
  | .ldc _ => 2
  | .iload _ => 2
  | .aload _ => 2
  | .lload _ => 2
  | .fload _ => 2
  | .istore _ => 2
  | .astore _ => 2
  | .lstore _ => 2
  | .fstore _ => 2
  | .newarray _ => 2
  | .sipush _ => 3
  | .ldc_w _ => 3
  | .ldc2_w _ => 3
  | .ifnull _ => 3
  | .ifnonnull _ => 3
  | .goto _ => 3
  | .getfield _ => 3
  | .putfield _ => 3
  | .getstatic _ => 3
  | .checkcast _ => 3
  | .new _ => 3
  | .anewarray _ => 3
  | .invokevirtual _ => 3
  | .invokestatic _ => 3
  | .invokespecial _ => 3
  | .iinc _ _ => 3
  | .ifCond _ _ => 3
  | .if_icmp _ _ => 3
  | _ => 1
def fldW (own : String) (i c k nest : Nat) : Cond := if nest = 0 then .fieldLink own i ((clC c).2.1 k).1 ((clC c).2.1 k).2.1 ((clC c).2.1 k).2.2.1 else .fieldLinkNest own i ((clC c).2.1 k).1 ((clC c).2.1 k).2.1 ((clC c).2.1 k).2.2.1 "FrequencyOffice"
def stF (a : Nat) : String × String × String := match a with
  | 0 => ("java/lang/String", "COMPACT_STRINGS", "Z")
  | 1 => ("java/lang/Integer", "DigitTens", "[B")
  | 2 => ("java/lang/Integer", "DigitOnes", "[B")
  | _ => ("jdk/internal/util/Preconditions", "SIOOBE_FORMATTER", "Ljava/util/function/BiFunction;")
abbrev MD : Type := MethodName × ByteArray × Nat × Option FieldType × List HE × List (List (Nat × IE))
def wtA (M : Nat) : Nat × Nat × Nat × Nat × Nat := wT.getD M (9999, 9999, 9999, 9999, 9999)
/-- a call's words -/
noncomputable def cP (own : String) (i : Nat) (r : Nat × Nat × Nat × Nat) (z : Nat) : Prop := match r.2.2.1 with
  | 0 => wAt z = some (.methodLink own i (mtY r.1)) ∧ stT.getD r.1 false = true ∧ npT.getD r.1 99 = r.2.1
  | 1 => wAt z = some (.methodLinkNest own i (mtY r.1) "FrequencyOffice") ∧ stT.getD r.1 false = true ∧ npT.getD r.1 99 = r.2.1
  | 2 => wAt z = some (.methodLink own i (mtY r.1)) ∧ stT.getD r.1 true = false ∧ npT.getD r.1 99 = r.2.1 ∧ (mtY r.1).cls = (clC r.2.2.2).1 ∧ wAt (wtA r.1).2.2.2.1 = some (.selects (mtY r.1).cls (mtY r.1) (mtY r.1))
  | 3 => wAt z = some (.methodLinkNest own i (mtY r.1) "FrequencyOffice") ∧ stT.getD r.1 true = false ∧ npT.getD r.1 99 = r.2.1 ∧ (mtY r.1).cls = (clC r.2.2.2).1 ∧ wAt (wtA r.1).2.2.2.1 = some (.selects (mtY r.1).cls (mtY r.1) (mtY r.1))
  | 4 => wAt z = some (.methodLink own i (mtY r.1)) ∧ stT.getD r.1 true = false ∧ npT.getD r.1 99 = r.2.1 ∧ (mtY r.1).cls = "java/lang/AbstractStringBuilder" ∧ r.2.2.2 = 1 ∧ wAt (wtA r.1).2.2.2.1 = some (.selects "java/lang/StringBuilder" (mtY r.1) (mtY r.1)) ∧ wAt (wtA r.1).2.2.2.2 = some (.sameMethod (mtY r.1).cls (mtY r.1).cls (mtY r.1).name (mtY r.1).desc)
  | 5 => wAt z = some (.methodLink own i (mtY r.1)) ∧ stT.getD r.1 true = false ∧ npT.getD r.1 99 = r.2.1 ∧ (mtY r.1).name = "<init>" ∧ mtR r.1 = none
  | 6 => wAt z = some (.methodLinkNest own i (mtY r.1) "FrequencyOffice") ∧ stT.getD r.1 true = false ∧ npT.getD r.1 99 = r.2.1 ∧ (mtY r.1).name = "<init>" ∧ mtR r.1 = none
  | 7 => wAt z = some (.methodLink own i (mtY r.1)) ∧ stT.getD r.1 true = false ∧ npT.getD r.1 99 = r.2.1 ∧ own = "java/lang/StringBuilder" ∧ (mtY r.1).cls = "java/lang/AbstractStringBuilder" ∧ r.2.2.2 = 1 ∧ (mtY r.1).name ≠ "<init>" ∧ wAt (wtA r.1).2.2.2.2 = some (.sameMethod (mtY r.1).cls (mtY r.1).cls (mtY r.1).name (mtY r.1).desc)
  | 8 => own = "java/lang/String" ∧ i = 549 ∧ r.1 = 194 ∧ r.2.1 = 0 ∧ r.2.2.2 = 1
  | 20 => wAt z = some (.methodLink own i Lib.objectInit)
  | 21 => wAt z = some (.methodLink own i arraycopyName)
  | 23 => wAt z = some (.methodLink own i Lib.Math.max.name)
  | 24 => wAt z = some (.methodLink own i Lib.Math.min.name)
  | 25 => wAt z = some (.methodLink own i Lib.Math.abs.name)
  | 22 => own = "java/util/Arrays" ∧ i = 310
  | _ => 311 ≤ r.1
/-- which calls go by which instruction -/
def vK (w k : Nat) : Prop := match w with
  | 0 => k = 0 ∨ k = 1 ∨ k = 21 ∨ k = 23 ∨ k = 24 ∨ k = 25 ∨ k = 99
  | 1 => k = 2 ∨ k = 3 ∨ k = 4 ∨ k = 8 ∨ k = 22 ∨ k = 99
  | _ => k = 5 ∨ k = 6 ∨ k = 7 ∨ k = 20 ∨ k = 99
/-- what a throw by 'new X(text)' rests on, in class FrequencyOffice: the places of class, text and constructor -/
def tsP (e : MD) (pc ik is ic x : Nat) (tx : String) (w1 w2 : Nat) : Prop :=
  wAt w1 = some (.classLink "FrequencyOffice" ik (exN x)) ∧ wAt w2 = some (.methodLink "FrequencyOffice" ic ⟨exN x, "<init>", "(Ljava/lang/String;)V"⟩) ∧ decode e.2.1 pc = .ok (.new ik, 3) ∧ decode e.2.1 (pc + 3) = .ok (.dup, 1) ∧ ((decode e.2.1 (pc + 4) = .ok (.ldc is, 2) ∧ decode e.2.1 (pc + 6) = .ok (.invokespecial ic, 3) ∧ decode e.2.1 (pc + 9) = .ok (.athrow, 1)) ∨ (decode e.2.1 (pc + 4) = .ok (.ldc_w is, 3) ∧ decode e.2.1 (pc + 7) = .ok (.invokespecial ic, 3) ∧ decode e.2.1 (pc + 10) = .ok (.athrow, 1))) ∧ (is, tx) ∈ exS
noncomputable def lP (e : MD) (pc : Nat) (q : IE) : Prop := match q.1 with
  | .getfield i => nfl q.2.2.1.1 ≤ q.2.2.1.2.1 ∨ wAt q.2.2.2.toNat = some (fldW e.1.cls i q.2.2.1.1 q.2.2.1.2.1 q.2.2.1.2.2.1)
  | .putfield i => wAt q.2.2.2.toNat = some (fldW e.1.cls i q.2.2.1.1 q.2.2.1.2.1 q.2.2.1.2.2.1) ∧ (((clC q.2.2.1.1).2.1 q.2.2.1.2.1).2.2.2 = false ∨ (e.1.name = "<init>" ∧ ((clC q.2.2.1.1).2.1 q.2.2.1.2.1).1 = e.1.cls ∧ q.2.2.1.2.2.1 = 0))
  | .getstatic i => 4 ≤ q.2.2.1.1 ∨ wAt q.2.2.2.toNat = some (.fieldLink e.1.cls i (stF q.2.2.1.1).1 (stF q.2.2.1.1).2.1 (stF q.2.2.1.1).2.2)
  | .new i => match q.2.2.1.2.2.1 with
    | 0 => nfl q.2.2.1.1 = 0 ∨ wAt q.2.2.2.toNat = some (.classLink e.1.cls i (clC q.2.2.1.1).1)
    | 1 => e.1.cls = "FrequencyOffice" ∧ ∃ is ic tx w1 w2, tsP e pc i is ic q.2.2.1.1 tx w1 w2
    | _ => True
  | .anewarray i => wAt q.2.2.2.toNat = some (.classLink e.1.cls i (if q.2.2.1.1 = 0 then "FrequencyOffice$Station" else "FrequencyOffice$Books"))
  | .checkcast i => wAt q.2.2.2.toNat = some (.classLink e.1.cls i "[B")
  | .ldc i => match q.2.2.1.1 with
    | 0 => wAt q.2.2.1.2.1 = some (.constant e.1.cls i (Int32.ofInt q.2.2.2))
    | 1 => e.1.cls = "FrequencyOffice" ∧ q.2.2.1.2.1 < 3 ∧ i = ([312, 317, 319] : List Nat).getD q.2.2.1.2.1 0
    | _ => True
  | .ldc_w i => match q.2.2.1.1 with
    | 1 => e.1.cls = "FrequencyOffice" ∧ q.2.2.1.2.1 < 3 ∧ i = ([312, 317, 319] : List Nat).getD q.2.2.1.2.1 0
    | _ => True
  | .ldc2_w i => wAt q.2.2.1.1 = some (.constantLong e.1.cls i (Int64.ofInt q.2.2.2))
  | .invokestatic i => cP e.1.cls i q.2.2.1 q.2.2.2.toNat ∧ vK 0 q.2.2.1.2.2.1
  | .invokevirtual i => cP e.1.cls i q.2.2.1 q.2.2.2.toNat ∧ vK 1 q.2.2.1.2.2.1
  | .invokespecial i => cP e.1.cls i q.2.2.1 q.2.2.2.toNat ∧ vK 2 q.2.2.1.2.2.1
  | _ => True
noncomputable def iP (e : MD) (q : Nat × IE) : Prop := (decode e.2.1 q.1 = .ok (q.2.1, q.2.2.1) ∧ q.2.2.1 = iln q.2.1 q.2.2.1) ∧ lP e q.1 q.2
noncomputable def codeW (M : Nat) : Cond := match hhT.getD M [] with
  | [] => .code (mtY M) (mtC M) (mtL M) (mtR M)
  | h :: hs => .codeWith (mtY M) (mtC M) (mtL M) (mtR M) (h :: hs)
noncomputable def mP (M : Nat) : Prop := wAt (wtA M).1 = some (codeW M) ∧ wAt (wtA M).2.1 = some (if stT.getD M false = true then .static (mtY M) else .instanceMethod (mtY M)) ∧ wAt (wtA M).2.2.1 = some (.initialized (mtY M).cls) ∧ ((mtY M).cls ≠ "java/lang/invoke/MethodHandle" ∧ (mtY M).cls ≠ "java/lang/invoke/VarHandle" ∧ (parseMethodDescriptor (mtY M).desc).map (fun d => d.parameters.length) = some (npT.getD M 99)) ∧ plainName (mtY M).cls = true ∧ mtL M ≤ 45

theorem dk_0_0 : ∀ q ∈ mi_0_0, decode mt_0.2.1 q.1 = .ok (q.2.1, q.2.2.1) ∧ q.2.2.1 = iln q.2.1 q.2.2.1 := by decide +kernel
theorem dk_0_1 : ∀ q ∈ mi_0_1, decode mt_0.2.1 q.1 = .ok (q.2.1, q.2.2.1) ∧ q.2.2.1 = iln q.2.1 q.2.2.1 := by decide +kernel
theorem dk_1_0 : ∀ q ∈ mi_1_0, decode mt_1.2.1 q.1 = .ok (q.2.1, q.2.2.1) ∧ q.2.2.1 = iln q.2.1 q.2.2.1 := by decide +kernel
theorem dk_1_1 : ∀ q ∈ mi_1_1, decode mt_1.2.1 q.1 = .ok (q.2.1, q.2.2.1) ∧ q.2.2.1 = iln q.2.1 q.2.2.1 := by decide +kernel
theorem dk_2_0 : ∀ q ∈ mi_2_0, decode mt_2.2.1 q.1 = .ok (q.2.1, q.2.2.1) ∧ q.2.2.1 = iln q.2.1 q.2.2.1 := by decide +kernel
theorem dk_3_0 : ∀ q ∈ mi_3_0, decode mt_3.2.1 q.1 = .ok (q.2.1, q.2.2.1) ∧ q.2.2.1 = iln q.2.1 q.2.2.1 := by decide +kernel
theorem dk_4_0 : ∀ q ∈ mi_4_0, decode mt_4.2.1 q.1 = .ok (q.2.1, q.2.2.1) ∧ q.2.2.1 = iln q.2.1 q.2.2.1 := by decide +kernel
theorem dk_5_0 : ∀ q ∈ mi_5_0, decode mt_5.2.1 q.1 = .ok (q.2.1, q.2.2.1) ∧ q.2.2.1 = iln q.2.1 q.2.2.1 := by decide +kernel
theorem dk_6_0 : ∀ q ∈ mi_6_0, decode mt_6.2.1 q.1 = .ok (q.2.1, q.2.2.1) ∧ q.2.2.1 = iln q.2.1 q.2.2.1 := by decide +kernel
theorem dk_7_0 : ∀ q ∈ mi_7_0, decode mt_7.2.1 q.1 = .ok (q.2.1, q.2.2.1) ∧ q.2.2.1 = iln q.2.1 q.2.2.1 := by decide +kernel
theorem dk_8_0 : ∀ q ∈ mi_8_0, decode mt_8.2.1 q.1 = .ok (q.2.1, q.2.2.1) ∧ q.2.2.1 = iln q.2.1 q.2.2.1 := by decide +kernel
theorem dk_9_0 : ∀ q ∈ mi_9_0, decode mt_9.2.1 q.1 = .ok (q.2.1, q.2.2.1) ∧ q.2.2.1 = iln q.2.1 q.2.2.1 := by decide +kernel
theorem dk_10_0 : ∀ q ∈ mi_10_0, decode mt_10.2.1 q.1 = .ok (q.2.1, q.2.2.1) ∧ q.2.2.1 = iln q.2.1 q.2.2.1 := by decide +kernel
theorem dk_11_0 : ∀ q ∈ mi_11_0, decode mt_11.2.1 q.1 = .ok (q.2.1, q.2.2.1) ∧ q.2.2.1 = iln q.2.1 q.2.2.1 := by decide +kernel
theorem dk_12_0 : ∀ q ∈ mi_12_0, decode mt_12.2.1 q.1 = .ok (q.2.1, q.2.2.1) ∧ q.2.2.1 = iln q.2.1 q.2.2.1 := by decide +kernel
theorem dk_13_0 : ∀ q ∈ mi_13_0, decode mt_13.2.1 q.1 = .ok (q.2.1, q.2.2.1) ∧ q.2.2.1 = iln q.2.1 q.2.2.1 := by decide +kernel
theorem dk_14_0 : ∀ q ∈ mi_14_0, decode mt_14.2.1 q.1 = .ok (q.2.1, q.2.2.1) ∧ q.2.2.1 = iln q.2.1 q.2.2.1 := by decide +kernel
theorem dk_15_0 : ∀ q ∈ mi_15_0, decode mt_15.2.1 q.1 = .ok (q.2.1, q.2.2.1) ∧ q.2.2.1 = iln q.2.1 q.2.2.1 := by decide +kernel
theorem dk_16_0 : ∀ q ∈ mi_16_0, decode mt_16.2.1 q.1 = .ok (q.2.1, q.2.2.1) ∧ q.2.2.1 = iln q.2.1 q.2.2.1 := by decide +kernel
theorem dk_17_0 : ∀ q ∈ mi_17_0, decode mt_17.2.1 q.1 = .ok (q.2.1, q.2.2.1) ∧ q.2.2.1 = iln q.2.1 q.2.2.1 := by decide +kernel
theorem dk_18_0 : ∀ q ∈ mi_18_0, decode mt_18.2.1 q.1 = .ok (q.2.1, q.2.2.1) ∧ q.2.2.1 = iln q.2.1 q.2.2.1 := by decide +kernel
theorem dk_19_0 : ∀ q ∈ mi_19_0, decode mt_19.2.1 q.1 = .ok (q.2.1, q.2.2.1) ∧ q.2.2.1 = iln q.2.1 q.2.2.1 := by decide +kernel
theorem dk_20_0 : ∀ q ∈ mi_20_0, decode mt_20.2.1 q.1 = .ok (q.2.1, q.2.2.1) ∧ q.2.2.1 = iln q.2.1 q.2.2.1 := by decide +kernel
theorem dk_21_0 : ∀ q ∈ mi_21_0, decode mt_21.2.1 q.1 = .ok (q.2.1, q.2.2.1) ∧ q.2.2.1 = iln q.2.1 q.2.2.1 := by decide +kernel
theorem dk_22_0 : ∀ q ∈ mi_22_0, decode mt_22.2.1 q.1 = .ok (q.2.1, q.2.2.1) ∧ q.2.2.1 = iln q.2.1 q.2.2.1 := by decide +kernel
theorem dk_23_0 : ∀ q ∈ mi_23_0, decode mt_23.2.1 q.1 = .ok (q.2.1, q.2.2.1) ∧ q.2.2.1 = iln q.2.1 q.2.2.1 := by decide +kernel
theorem dk_24_0 : ∀ q ∈ mi_24_0, decode mt_24.2.1 q.1 = .ok (q.2.1, q.2.2.1) ∧ q.2.2.1 = iln q.2.1 q.2.2.1 := by decide +kernel
theorem dk_25_0 : ∀ q ∈ mi_25_0, decode mt_25.2.1 q.1 = .ok (q.2.1, q.2.2.1) ∧ q.2.2.1 = iln q.2.1 q.2.2.1 := by decide +kernel
theorem dk_26_0 : ∀ q ∈ mi_26_0, decode mt_26.2.1 q.1 = .ok (q.2.1, q.2.2.1) ∧ q.2.2.1 = iln q.2.1 q.2.2.1 := by decide +kernel
theorem dk_27_0 : ∀ q ∈ mi_27_0, decode mt_27.2.1 q.1 = .ok (q.2.1, q.2.2.1) ∧ q.2.2.1 = iln q.2.1 q.2.2.1 := by decide +kernel
theorem dk_28_0 : ∀ q ∈ mi_28_0, decode mt_28.2.1 q.1 = .ok (q.2.1, q.2.2.1) ∧ q.2.2.1 = iln q.2.1 q.2.2.1 := by decide +kernel
theorem dk_29_0 : ∀ q ∈ mi_29_0, decode mt_29.2.1 q.1 = .ok (q.2.1, q.2.2.1) ∧ q.2.2.1 = iln q.2.1 q.2.2.1 := by decide +kernel
theorem dk_30_0 : ∀ q ∈ mi_30_0, decode mt_30.2.1 q.1 = .ok (q.2.1, q.2.2.1) ∧ q.2.2.1 = iln q.2.1 q.2.2.1 := by decide +kernel
theorem dk_31_0 : ∀ q ∈ mi_31_0, decode mt_31.2.1 q.1 = .ok (q.2.1, q.2.2.1) ∧ q.2.2.1 = iln q.2.1 q.2.2.1 := by decide +kernel
theorem dk_32_0 : ∀ q ∈ mi_32_0, decode mt_32.2.1 q.1 = .ok (q.2.1, q.2.2.1) ∧ q.2.2.1 = iln q.2.1 q.2.2.1 := by decide +kernel
theorem dk_33_0 : ∀ q ∈ mi_33_0, decode mt_33.2.1 q.1 = .ok (q.2.1, q.2.2.1) ∧ q.2.2.1 = iln q.2.1 q.2.2.1 := by decide +kernel
theorem dk_34_0 : ∀ q ∈ mi_34_0, decode mt_34.2.1 q.1 = .ok (q.2.1, q.2.2.1) ∧ q.2.2.1 = iln q.2.1 q.2.2.1 := by decide +kernel
theorem dk_34_1 : ∀ q ∈ mi_34_1, decode mt_34.2.1 q.1 = .ok (q.2.1, q.2.2.1) ∧ q.2.2.1 = iln q.2.1 q.2.2.1 := by decide +kernel
theorem dk_35_0 : ∀ q ∈ mi_35_0, decode mt_35.2.1 q.1 = .ok (q.2.1, q.2.2.1) ∧ q.2.2.1 = iln q.2.1 q.2.2.1 := by decide +kernel
theorem dk_36_0 : ∀ q ∈ mi_36_0, decode mt_36.2.1 q.1 = .ok (q.2.1, q.2.2.1) ∧ q.2.2.1 = iln q.2.1 q.2.2.1 := by decide +kernel
theorem dk_37_0 : ∀ q ∈ mi_37_0, decode mt_37.2.1 q.1 = .ok (q.2.1, q.2.2.1) ∧ q.2.2.1 = iln q.2.1 q.2.2.1 := by decide +kernel
theorem dk_37_1 : ∀ q ∈ mi_37_1, decode mt_37.2.1 q.1 = .ok (q.2.1, q.2.2.1) ∧ q.2.2.1 = iln q.2.1 q.2.2.1 := by decide +kernel
theorem dk_38_0 : ∀ q ∈ mi_38_0, decode mt_38.2.1 q.1 = .ok (q.2.1, q.2.2.1) ∧ q.2.2.1 = iln q.2.1 q.2.2.1 := by decide +kernel
theorem dk_39_0 : ∀ q ∈ mi_39_0, decode mt_39.2.1 q.1 = .ok (q.2.1, q.2.2.1) ∧ q.2.2.1 = iln q.2.1 q.2.2.1 := by decide +kernel
theorem dk_40_0 : ∀ q ∈ mi_40_0, decode mt_40.2.1 q.1 = .ok (q.2.1, q.2.2.1) ∧ q.2.2.1 = iln q.2.1 q.2.2.1 := by decide +kernel
theorem dk_40_1 : ∀ q ∈ mi_40_1, decode mt_40.2.1 q.1 = .ok (q.2.1, q.2.2.1) ∧ q.2.2.1 = iln q.2.1 q.2.2.1 := by decide +kernel
theorem dk_41_0 : ∀ q ∈ mi_41_0, decode mt_41.2.1 q.1 = .ok (q.2.1, q.2.2.1) ∧ q.2.2.1 = iln q.2.1 q.2.2.1 := by decide +kernel
theorem dk_42_0 : ∀ q ∈ mi_42_0, decode mt_42.2.1 q.1 = .ok (q.2.1, q.2.2.1) ∧ q.2.2.1 = iln q.2.1 q.2.2.1 := by decide +kernel
theorem dk_43_0 : ∀ q ∈ mi_43_0, decode mt_43.2.1 q.1 = .ok (q.2.1, q.2.2.1) ∧ q.2.2.1 = iln q.2.1 q.2.2.1 := by decide +kernel
theorem dk_43_1 : ∀ q ∈ mi_43_1, decode mt_43.2.1 q.1 = .ok (q.2.1, q.2.2.1) ∧ q.2.2.1 = iln q.2.1 q.2.2.1 := by decide +kernel
theorem dk_44_0 : ∀ q ∈ mi_44_0, decode mt_44.2.1 q.1 = .ok (q.2.1, q.2.2.1) ∧ q.2.2.1 = iln q.2.1 q.2.2.1 := by decide +kernel
theorem dk_45_0 : ∀ q ∈ mi_45_0, decode mt_45.2.1 q.1 = .ok (q.2.1, q.2.2.1) ∧ q.2.2.1 = iln q.2.1 q.2.2.1 := by decide +kernel
theorem dk_46_0 : ∀ q ∈ mi_46_0, decode mt_46.2.1 q.1 = .ok (q.2.1, q.2.2.1) ∧ q.2.2.1 = iln q.2.1 q.2.2.1 := by decide +kernel
theorem dk_47_0 : ∀ q ∈ mi_47_0, decode mt_47.2.1 q.1 = .ok (q.2.1, q.2.2.1) ∧ q.2.2.1 = iln q.2.1 q.2.2.1 := by decide +kernel
theorem dk_48_0 : ∀ q ∈ mi_48_0, decode mt_48.2.1 q.1 = .ok (q.2.1, q.2.2.1) ∧ q.2.2.1 = iln q.2.1 q.2.2.1 := by decide +kernel
theorem dk_48_1 : ∀ q ∈ mi_48_1, decode mt_48.2.1 q.1 = .ok (q.2.1, q.2.2.1) ∧ q.2.2.1 = iln q.2.1 q.2.2.1 := by decide +kernel
theorem dk_49_0 : ∀ q ∈ mi_49_0, decode mt_49.2.1 q.1 = .ok (q.2.1, q.2.2.1) ∧ q.2.2.1 = iln q.2.1 q.2.2.1 := by decide +kernel
theorem dk_50_0 : ∀ q ∈ mi_50_0, decode mt_50.2.1 q.1 = .ok (q.2.1, q.2.2.1) ∧ q.2.2.1 = iln q.2.1 q.2.2.1 := by decide +kernel
theorem dk_51_0 : ∀ q ∈ mi_51_0, decode mt_51.2.1 q.1 = .ok (q.2.1, q.2.2.1) ∧ q.2.2.1 = iln q.2.1 q.2.2.1 := by decide +kernel
theorem dk_51_1 : ∀ q ∈ mi_51_1, decode mt_51.2.1 q.1 = .ok (q.2.1, q.2.2.1) ∧ q.2.2.1 = iln q.2.1 q.2.2.1 := by decide +kernel
theorem dk_52_0 : ∀ q ∈ mi_52_0, decode mt_52.2.1 q.1 = .ok (q.2.1, q.2.2.1) ∧ q.2.2.1 = iln q.2.1 q.2.2.1 := by decide +kernel
theorem dk_53_0 : ∀ q ∈ mi_53_0, decode mt_53.2.1 q.1 = .ok (q.2.1, q.2.2.1) ∧ q.2.2.1 = iln q.2.1 q.2.2.1 := by decide +kernel
theorem dk_53_1 : ∀ q ∈ mi_53_1, decode mt_53.2.1 q.1 = .ok (q.2.1, q.2.2.1) ∧ q.2.2.1 = iln q.2.1 q.2.2.1 := by decide +kernel
theorem dk_54_0 : ∀ q ∈ mi_54_0, decode mt_54.2.1 q.1 = .ok (q.2.1, q.2.2.1) ∧ q.2.2.1 = iln q.2.1 q.2.2.1 := by decide +kernel
theorem dk_55_0 : ∀ q ∈ mi_55_0, decode mt_55.2.1 q.1 = .ok (q.2.1, q.2.2.1) ∧ q.2.2.1 = iln q.2.1 q.2.2.1 := by decide +kernel
theorem dk_56_0 : ∀ q ∈ mi_56_0, decode mt_56.2.1 q.1 = .ok (q.2.1, q.2.2.1) ∧ q.2.2.1 = iln q.2.1 q.2.2.1 := by decide +kernel
theorem dk_57_0 : ∀ q ∈ mi_57_0, decode mt_57.2.1 q.1 = .ok (q.2.1, q.2.2.1) ∧ q.2.2.1 = iln q.2.1 q.2.2.1 := by decide +kernel
theorem dk_57_1 : ∀ q ∈ mi_57_1, decode mt_57.2.1 q.1 = .ok (q.2.1, q.2.2.1) ∧ q.2.2.1 = iln q.2.1 q.2.2.1 := by decide +kernel
theorem dk_58_0 : ∀ q ∈ mi_58_0, decode mt_58.2.1 q.1 = .ok (q.2.1, q.2.2.1) ∧ q.2.2.1 = iln q.2.1 q.2.2.1 := by decide +kernel
theorem dk_59_0 : ∀ q ∈ mi_59_0, decode mt_59.2.1 q.1 = .ok (q.2.1, q.2.2.1) ∧ q.2.2.1 = iln q.2.1 q.2.2.1 := by decide +kernel
theorem dk_60_0 : ∀ q ∈ mi_60_0, decode mt_60.2.1 q.1 = .ok (q.2.1, q.2.2.1) ∧ q.2.2.1 = iln q.2.1 q.2.2.1 := by decide +kernel
theorem dk_61_0 : ∀ q ∈ mi_61_0, decode mt_61.2.1 q.1 = .ok (q.2.1, q.2.2.1) ∧ q.2.2.1 = iln q.2.1 q.2.2.1 := by decide +kernel
theorem dk_62_0 : ∀ q ∈ mi_62_0, decode mt_62.2.1 q.1 = .ok (q.2.1, q.2.2.1) ∧ q.2.2.1 = iln q.2.1 q.2.2.1 := by decide +kernel
theorem dk_62_1 : ∀ q ∈ mi_62_1, decode mt_62.2.1 q.1 = .ok (q.2.1, q.2.2.1) ∧ q.2.2.1 = iln q.2.1 q.2.2.1 := by decide +kernel
theorem dk_63_0 : ∀ q ∈ mi_63_0, decode mt_63.2.1 q.1 = .ok (q.2.1, q.2.2.1) ∧ q.2.2.1 = iln q.2.1 q.2.2.1 := by decide +kernel
theorem dk_64_0 : ∀ q ∈ mi_64_0, decode mt_64.2.1 q.1 = .ok (q.2.1, q.2.2.1) ∧ q.2.2.1 = iln q.2.1 q.2.2.1 := by decide +kernel
theorem dk_65_0 : ∀ q ∈ mi_65_0, decode mt_65.2.1 q.1 = .ok (q.2.1, q.2.2.1) ∧ q.2.2.1 = iln q.2.1 q.2.2.1 := by decide +kernel
theorem dk_65_1 : ∀ q ∈ mi_65_1, decode mt_65.2.1 q.1 = .ok (q.2.1, q.2.2.1) ∧ q.2.2.1 = iln q.2.1 q.2.2.1 := by decide +kernel
theorem dk_66_0 : ∀ q ∈ mi_66_0, decode mt_66.2.1 q.1 = .ok (q.2.1, q.2.2.1) ∧ q.2.2.1 = iln q.2.1 q.2.2.1 := by decide +kernel
theorem dk_67_0 : ∀ q ∈ mi_67_0, decode mt_67.2.1 q.1 = .ok (q.2.1, q.2.2.1) ∧ q.2.2.1 = iln q.2.1 q.2.2.1 := by decide +kernel
theorem dk_68_0 : ∀ q ∈ mi_68_0, decode mt_68.2.1 q.1 = .ok (q.2.1, q.2.2.1) ∧ q.2.2.1 = iln q.2.1 q.2.2.1 := by decide +kernel
theorem dk_69_0 : ∀ q ∈ mi_69_0, decode mt_69.2.1 q.1 = .ok (q.2.1, q.2.2.1) ∧ q.2.2.1 = iln q.2.1 q.2.2.1 := by decide +kernel
theorem dk_70_0 : ∀ q ∈ mi_70_0, decode mt_70.2.1 q.1 = .ok (q.2.1, q.2.2.1) ∧ q.2.2.1 = iln q.2.1 q.2.2.1 := by decide +kernel
theorem dk_70_1 : ∀ q ∈ mi_70_1, decode mt_70.2.1 q.1 = .ok (q.2.1, q.2.2.1) ∧ q.2.2.1 = iln q.2.1 q.2.2.1 := by decide +kernel
theorem dk_71_0 : ∀ q ∈ mi_71_0, decode mt_71.2.1 q.1 = .ok (q.2.1, q.2.2.1) ∧ q.2.2.1 = iln q.2.1 q.2.2.1 := by decide +kernel
theorem dk_72_0 : ∀ q ∈ mi_72_0, decode mt_72.2.1 q.1 = .ok (q.2.1, q.2.2.1) ∧ q.2.2.1 = iln q.2.1 q.2.2.1 := by decide +kernel
theorem dk_73_0 : ∀ q ∈ mi_73_0, decode mt_73.2.1 q.1 = .ok (q.2.1, q.2.2.1) ∧ q.2.2.1 = iln q.2.1 q.2.2.1 := by decide +kernel
theorem dk_74_0 : ∀ q ∈ mi_74_0, decode mt_74.2.1 q.1 = .ok (q.2.1, q.2.2.1) ∧ q.2.2.1 = iln q.2.1 q.2.2.1 := by decide +kernel
theorem dk_75_0 : ∀ q ∈ mi_75_0, decode mt_75.2.1 q.1 = .ok (q.2.1, q.2.2.1) ∧ q.2.2.1 = iln q.2.1 q.2.2.1 := by decide +kernel
theorem dk_75_1 : ∀ q ∈ mi_75_1, decode mt_75.2.1 q.1 = .ok (q.2.1, q.2.2.1) ∧ q.2.2.1 = iln q.2.1 q.2.2.1 := by decide +kernel
theorem dk_76_0 : ∀ q ∈ mi_76_0, decode mt_76.2.1 q.1 = .ok (q.2.1, q.2.2.1) ∧ q.2.2.1 = iln q.2.1 q.2.2.1 := by decide +kernel
theorem dk_77_0 : ∀ q ∈ mi_77_0, decode mt_77.2.1 q.1 = .ok (q.2.1, q.2.2.1) ∧ q.2.2.1 = iln q.2.1 q.2.2.1 := by decide +kernel
theorem dk_78_0 : ∀ q ∈ mi_78_0, decode mt_78.2.1 q.1 = .ok (q.2.1, q.2.2.1) ∧ q.2.2.1 = iln q.2.1 q.2.2.1 := by decide +kernel
theorem dk_78_1 : ∀ q ∈ mi_78_1, decode mt_78.2.1 q.1 = .ok (q.2.1, q.2.2.1) ∧ q.2.2.1 = iln q.2.1 q.2.2.1 := by decide +kernel
theorem dk_79_0 : ∀ q ∈ mi_79_0, decode mt_79.2.1 q.1 = .ok (q.2.1, q.2.2.1) ∧ q.2.2.1 = iln q.2.1 q.2.2.1 := by decide +kernel
theorem dk_79_1 : ∀ q ∈ mi_79_1, decode mt_79.2.1 q.1 = .ok (q.2.1, q.2.2.1) ∧ q.2.2.1 = iln q.2.1 q.2.2.1 := by decide +kernel
theorem dk_80_0 : ∀ q ∈ mi_80_0, decode mt_80.2.1 q.1 = .ok (q.2.1, q.2.2.1) ∧ q.2.2.1 = iln q.2.1 q.2.2.1 := by decide +kernel
theorem dk_81_0 : ∀ q ∈ mi_81_0, decode mt_81.2.1 q.1 = .ok (q.2.1, q.2.2.1) ∧ q.2.2.1 = iln q.2.1 q.2.2.1 := by decide +kernel
theorem dk_82_0 : ∀ q ∈ mi_82_0, decode mt_82.2.1 q.1 = .ok (q.2.1, q.2.2.1) ∧ q.2.2.1 = iln q.2.1 q.2.2.1 := by decide +kernel
theorem dk_82_1 : ∀ q ∈ mi_82_1, decode mt_82.2.1 q.1 = .ok (q.2.1, q.2.2.1) ∧ q.2.2.1 = iln q.2.1 q.2.2.1 := by decide +kernel
theorem dk_83_0 : ∀ q ∈ mi_83_0, decode mt_83.2.1 q.1 = .ok (q.2.1, q.2.2.1) ∧ q.2.2.1 = iln q.2.1 q.2.2.1 := by decide +kernel
theorem dk_84_0 : ∀ q ∈ mi_84_0, decode mt_84.2.1 q.1 = .ok (q.2.1, q.2.2.1) ∧ q.2.2.1 = iln q.2.1 q.2.2.1 := by decide +kernel
theorem dk_84_1 : ∀ q ∈ mi_84_1, decode mt_84.2.1 q.1 = .ok (q.2.1, q.2.2.1) ∧ q.2.2.1 = iln q.2.1 q.2.2.1 := by decide +kernel
theorem dk_85_0 : ∀ q ∈ mi_85_0, decode mt_85.2.1 q.1 = .ok (q.2.1, q.2.2.1) ∧ q.2.2.1 = iln q.2.1 q.2.2.1 := by decide +kernel
theorem dk_85_1 : ∀ q ∈ mi_85_1, decode mt_85.2.1 q.1 = .ok (q.2.1, q.2.2.1) ∧ q.2.2.1 = iln q.2.1 q.2.2.1 := by decide +kernel
theorem dk_86_0 : ∀ q ∈ mi_86_0, decode mt_86.2.1 q.1 = .ok (q.2.1, q.2.2.1) ∧ q.2.2.1 = iln q.2.1 q.2.2.1 := by decide +kernel
theorem dk_86_1 : ∀ q ∈ mi_86_1, decode mt_86.2.1 q.1 = .ok (q.2.1, q.2.2.1) ∧ q.2.2.1 = iln q.2.1 q.2.2.1 := by decide +kernel
theorem dk_87_0 : ∀ q ∈ mi_87_0, decode mt_87.2.1 q.1 = .ok (q.2.1, q.2.2.1) ∧ q.2.2.1 = iln q.2.1 q.2.2.1 := by decide +kernel
theorem dk_87_1 : ∀ q ∈ mi_87_1, decode mt_87.2.1 q.1 = .ok (q.2.1, q.2.2.1) ∧ q.2.2.1 = iln q.2.1 q.2.2.1 := by decide +kernel
theorem dk_88_0 : ∀ q ∈ mi_88_0, decode mt_88.2.1 q.1 = .ok (q.2.1, q.2.2.1) ∧ q.2.2.1 = iln q.2.1 q.2.2.1 := by decide +kernel
theorem dk_89_0 : ∀ q ∈ mi_89_0, decode mt_89.2.1 q.1 = .ok (q.2.1, q.2.2.1) ∧ q.2.2.1 = iln q.2.1 q.2.2.1 := by decide +kernel
theorem dk_89_1 : ∀ q ∈ mi_89_1, decode mt_89.2.1 q.1 = .ok (q.2.1, q.2.2.1) ∧ q.2.2.1 = iln q.2.1 q.2.2.1 := by decide +kernel
theorem dk_90_0 : ∀ q ∈ mi_90_0, decode mt_90.2.1 q.1 = .ok (q.2.1, q.2.2.1) ∧ q.2.2.1 = iln q.2.1 q.2.2.1 := by decide +kernel
theorem dk_91_0 : ∀ q ∈ mi_91_0, decode mt_91.2.1 q.1 = .ok (q.2.1, q.2.2.1) ∧ q.2.2.1 = iln q.2.1 q.2.2.1 := by decide +kernel
theorem dk_92_0 : ∀ q ∈ mi_92_0, decode mt_92.2.1 q.1 = .ok (q.2.1, q.2.2.1) ∧ q.2.2.1 = iln q.2.1 q.2.2.1 := by decide +kernel
theorem dk_92_1 : ∀ q ∈ mi_92_1, decode mt_92.2.1 q.1 = .ok (q.2.1, q.2.2.1) ∧ q.2.2.1 = iln q.2.1 q.2.2.1 := by decide +kernel
theorem dk_93_0 : ∀ q ∈ mi_93_0, decode mt_93.2.1 q.1 = .ok (q.2.1, q.2.2.1) ∧ q.2.2.1 = iln q.2.1 q.2.2.1 := by decide +kernel
theorem dk_94_0 : ∀ q ∈ mi_94_0, decode mt_94.2.1 q.1 = .ok (q.2.1, q.2.2.1) ∧ q.2.2.1 = iln q.2.1 q.2.2.1 := by decide +kernel
theorem dk_95_0 : ∀ q ∈ mi_95_0, decode mt_95.2.1 q.1 = .ok (q.2.1, q.2.2.1) ∧ q.2.2.1 = iln q.2.1 q.2.2.1 := by decide +kernel
theorem dk_96_0 : ∀ q ∈ mi_96_0, decode mt_96.2.1 q.1 = .ok (q.2.1, q.2.2.1) ∧ q.2.2.1 = iln q.2.1 q.2.2.1 := by decide +kernel
theorem dk_97_0 : ∀ q ∈ mi_97_0, decode mt_97.2.1 q.1 = .ok (q.2.1, q.2.2.1) ∧ q.2.2.1 = iln q.2.1 q.2.2.1 := by decide +kernel
theorem dk_97_1 : ∀ q ∈ mi_97_1, decode mt_97.2.1 q.1 = .ok (q.2.1, q.2.2.1) ∧ q.2.2.1 = iln q.2.1 q.2.2.1 := by decide +kernel
theorem dk_98_0 : ∀ q ∈ mi_98_0, decode mt_98.2.1 q.1 = .ok (q.2.1, q.2.2.1) ∧ q.2.2.1 = iln q.2.1 q.2.2.1 := by decide +kernel
theorem dk_99_0 : ∀ q ∈ mi_99_0, decode mt_99.2.1 q.1 = .ok (q.2.1, q.2.2.1) ∧ q.2.2.1 = iln q.2.1 q.2.2.1 := by decide +kernel
theorem dk_100_0 : ∀ q ∈ mi_100_0, decode mt_100.2.1 q.1 = .ok (q.2.1, q.2.2.1) ∧ q.2.2.1 = iln q.2.1 q.2.2.1 := by decide +kernel
theorem dk_101_0 : ∀ q ∈ mi_101_0, decode mt_101.2.1 q.1 = .ok (q.2.1, q.2.2.1) ∧ q.2.2.1 = iln q.2.1 q.2.2.1 := by decide +kernel
theorem dk_102_0 : ∀ q ∈ mi_102_0, decode mt_102.2.1 q.1 = .ok (q.2.1, q.2.2.1) ∧ q.2.2.1 = iln q.2.1 q.2.2.1 := by decide +kernel
theorem dk_103_0 : ∀ q ∈ mi_103_0, decode mt_103.2.1 q.1 = .ok (q.2.1, q.2.2.1) ∧ q.2.2.1 = iln q.2.1 q.2.2.1 := by decide +kernel
theorem dk_104_0 : ∀ q ∈ mi_104_0, decode mt_104.2.1 q.1 = .ok (q.2.1, q.2.2.1) ∧ q.2.2.1 = iln q.2.1 q.2.2.1 := by decide +kernel
theorem dk_105_0 : ∀ q ∈ mi_105_0, decode mt_105.2.1 q.1 = .ok (q.2.1, q.2.2.1) ∧ q.2.2.1 = iln q.2.1 q.2.2.1 := by decide +kernel
theorem dk_105_1 : ∀ q ∈ mi_105_1, decode mt_105.2.1 q.1 = .ok (q.2.1, q.2.2.1) ∧ q.2.2.1 = iln q.2.1 q.2.2.1 := by decide +kernel
theorem dk_106_0 : ∀ q ∈ mi_106_0, decode mt_106.2.1 q.1 = .ok (q.2.1, q.2.2.1) ∧ q.2.2.1 = iln q.2.1 q.2.2.1 := by decide +kernel
theorem dk_107_0 : ∀ q ∈ mi_107_0, decode mt_107.2.1 q.1 = .ok (q.2.1, q.2.2.1) ∧ q.2.2.1 = iln q.2.1 q.2.2.1 := by decide +kernel
theorem dk_108_0 : ∀ q ∈ mi_108_0, decode mt_108.2.1 q.1 = .ok (q.2.1, q.2.2.1) ∧ q.2.2.1 = iln q.2.1 q.2.2.1 := by decide +kernel
theorem dk_109_0 : ∀ q ∈ mi_109_0, decode mt_109.2.1 q.1 = .ok (q.2.1, q.2.2.1) ∧ q.2.2.1 = iln q.2.1 q.2.2.1 := by decide +kernel
theorem dk_110_0 : ∀ q ∈ mi_110_0, decode mt_110.2.1 q.1 = .ok (q.2.1, q.2.2.1) ∧ q.2.2.1 = iln q.2.1 q.2.2.1 := by decide +kernel
theorem dk_111_0 : ∀ q ∈ mi_111_0, decode mt_111.2.1 q.1 = .ok (q.2.1, q.2.2.1) ∧ q.2.2.1 = iln q.2.1 q.2.2.1 := by decide +kernel
theorem dk_112_0 : ∀ q ∈ mi_112_0, decode mt_112.2.1 q.1 = .ok (q.2.1, q.2.2.1) ∧ q.2.2.1 = iln q.2.1 q.2.2.1 := by decide +kernel
theorem dk_113_0 : ∀ q ∈ mi_113_0, decode mt_113.2.1 q.1 = .ok (q.2.1, q.2.2.1) ∧ q.2.2.1 = iln q.2.1 q.2.2.1 := by decide +kernel
theorem dk_114_0 : ∀ q ∈ mi_114_0, decode mt_114.2.1 q.1 = .ok (q.2.1, q.2.2.1) ∧ q.2.2.1 = iln q.2.1 q.2.2.1 := by decide +kernel
theorem dk_115_0 : ∀ q ∈ mi_115_0, decode mt_115.2.1 q.1 = .ok (q.2.1, q.2.2.1) ∧ q.2.2.1 = iln q.2.1 q.2.2.1 := by decide +kernel
theorem dk_116_0 : ∀ q ∈ mi_116_0, decode mt_116.2.1 q.1 = .ok (q.2.1, q.2.2.1) ∧ q.2.2.1 = iln q.2.1 q.2.2.1 := by decide +kernel
theorem dk_117_0 : ∀ q ∈ mi_117_0, decode mt_117.2.1 q.1 = .ok (q.2.1, q.2.2.1) ∧ q.2.2.1 = iln q.2.1 q.2.2.1 := by decide +kernel
theorem dk_118_0 : ∀ q ∈ mi_118_0, decode mt_118.2.1 q.1 = .ok (q.2.1, q.2.2.1) ∧ q.2.2.1 = iln q.2.1 q.2.2.1 := by decide +kernel
theorem dk_119_0 : ∀ q ∈ mi_119_0, decode mt_119.2.1 q.1 = .ok (q.2.1, q.2.2.1) ∧ q.2.2.1 = iln q.2.1 q.2.2.1 := by decide +kernel
theorem dk_120_0 : ∀ q ∈ mi_120_0, decode mt_120.2.1 q.1 = .ok (q.2.1, q.2.2.1) ∧ q.2.2.1 = iln q.2.1 q.2.2.1 := by decide +kernel
theorem dk_121_0 : ∀ q ∈ mi_121_0, decode mt_121.2.1 q.1 = .ok (q.2.1, q.2.2.1) ∧ q.2.2.1 = iln q.2.1 q.2.2.1 := by decide +kernel
theorem dk_122_0 : ∀ q ∈ mi_122_0, decode mt_122.2.1 q.1 = .ok (q.2.1, q.2.2.1) ∧ q.2.2.1 = iln q.2.1 q.2.2.1 := by decide +kernel
theorem dk_123_0 : ∀ q ∈ mi_123_0, decode mt_123.2.1 q.1 = .ok (q.2.1, q.2.2.1) ∧ q.2.2.1 = iln q.2.1 q.2.2.1 := by decide +kernel
theorem dk_124_0 : ∀ q ∈ mi_124_0, decode mt_124.2.1 q.1 = .ok (q.2.1, q.2.2.1) ∧ q.2.2.1 = iln q.2.1 q.2.2.1 := by decide +kernel
theorem dk_125_0 : ∀ q ∈ mi_125_0, decode mt_125.2.1 q.1 = .ok (q.2.1, q.2.2.1) ∧ q.2.2.1 = iln q.2.1 q.2.2.1 := by decide +kernel
theorem dk_126_0 : ∀ q ∈ mi_126_0, decode mt_126.2.1 q.1 = .ok (q.2.1, q.2.2.1) ∧ q.2.2.1 = iln q.2.1 q.2.2.1 := by decide +kernel
theorem dk_127_0 : ∀ q ∈ mi_127_0, decode mt_127.2.1 q.1 = .ok (q.2.1, q.2.2.1) ∧ q.2.2.1 = iln q.2.1 q.2.2.1 := by decide +kernel
theorem dk_128_0 : ∀ q ∈ mi_128_0, decode mt_128.2.1 q.1 = .ok (q.2.1, q.2.2.1) ∧ q.2.2.1 = iln q.2.1 q.2.2.1 := by decide +kernel
theorem dk_129_0 : ∀ q ∈ mi_129_0, decode mt_129.2.1 q.1 = .ok (q.2.1, q.2.2.1) ∧ q.2.2.1 = iln q.2.1 q.2.2.1 := by decide +kernel
theorem dk_130_0 : ∀ q ∈ mi_130_0, decode mt_130.2.1 q.1 = .ok (q.2.1, q.2.2.1) ∧ q.2.2.1 = iln q.2.1 q.2.2.1 := by decide +kernel
theorem dk_131_0 : ∀ q ∈ mi_131_0, decode mt_131.2.1 q.1 = .ok (q.2.1, q.2.2.1) ∧ q.2.2.1 = iln q.2.1 q.2.2.1 := by decide +kernel
theorem dk_132_0 : ∀ q ∈ mi_132_0, decode mt_132.2.1 q.1 = .ok (q.2.1, q.2.2.1) ∧ q.2.2.1 = iln q.2.1 q.2.2.1 := by decide +kernel
theorem dk_133_0 : ∀ q ∈ mi_133_0, decode mt_133.2.1 q.1 = .ok (q.2.1, q.2.2.1) ∧ q.2.2.1 = iln q.2.1 q.2.2.1 := by decide +kernel
theorem dk_134_0 : ∀ q ∈ mi_134_0, decode mt_134.2.1 q.1 = .ok (q.2.1, q.2.2.1) ∧ q.2.2.1 = iln q.2.1 q.2.2.1 := by decide +kernel
theorem dk_135_0 : ∀ q ∈ mi_135_0, decode mt_135.2.1 q.1 = .ok (q.2.1, q.2.2.1) ∧ q.2.2.1 = iln q.2.1 q.2.2.1 := by decide +kernel
theorem dk_136_0 : ∀ q ∈ mi_136_0, decode mt_136.2.1 q.1 = .ok (q.2.1, q.2.2.1) ∧ q.2.2.1 = iln q.2.1 q.2.2.1 := by decide +kernel
theorem dk_137_0 : ∀ q ∈ mi_137_0, decode mt_137.2.1 q.1 = .ok (q.2.1, q.2.2.1) ∧ q.2.2.1 = iln q.2.1 q.2.2.1 := by decide +kernel
theorem dk_138_0 : ∀ q ∈ mi_138_0, decode mt_138.2.1 q.1 = .ok (q.2.1, q.2.2.1) ∧ q.2.2.1 = iln q.2.1 q.2.2.1 := by decide +kernel
theorem dk_139_0 : ∀ q ∈ mi_139_0, decode mt_139.2.1 q.1 = .ok (q.2.1, q.2.2.1) ∧ q.2.2.1 = iln q.2.1 q.2.2.1 := by decide +kernel
theorem dk_140_0 : ∀ q ∈ mi_140_0, decode mt_140.2.1 q.1 = .ok (q.2.1, q.2.2.1) ∧ q.2.2.1 = iln q.2.1 q.2.2.1 := by decide +kernel
theorem dk_141_0 : ∀ q ∈ mi_141_0, decode mt_141.2.1 q.1 = .ok (q.2.1, q.2.2.1) ∧ q.2.2.1 = iln q.2.1 q.2.2.1 := by decide +kernel
theorem dk_142_0 : ∀ q ∈ mi_142_0, decode mt_142.2.1 q.1 = .ok (q.2.1, q.2.2.1) ∧ q.2.2.1 = iln q.2.1 q.2.2.1 := by decide +kernel
theorem dk_143_0 : ∀ q ∈ mi_143_0, decode mt_143.2.1 q.1 = .ok (q.2.1, q.2.2.1) ∧ q.2.2.1 = iln q.2.1 q.2.2.1 := by decide +kernel
theorem dk_143_1 : ∀ q ∈ mi_143_1, decode mt_143.2.1 q.1 = .ok (q.2.1, q.2.2.1) ∧ q.2.2.1 = iln q.2.1 q.2.2.1 := by decide +kernel
theorem dk_144_0 : ∀ q ∈ mi_144_0, decode mt_144.2.1 q.1 = .ok (q.2.1, q.2.2.1) ∧ q.2.2.1 = iln q.2.1 q.2.2.1 := by decide +kernel
theorem dk_145_0 : ∀ q ∈ mi_145_0, decode mt_145.2.1 q.1 = .ok (q.2.1, q.2.2.1) ∧ q.2.2.1 = iln q.2.1 q.2.2.1 := by decide +kernel
theorem dk_146_0 : ∀ q ∈ mi_146_0, decode mt_146.2.1 q.1 = .ok (q.2.1, q.2.2.1) ∧ q.2.2.1 = iln q.2.1 q.2.2.1 := by decide +kernel
theorem dk_146_1 : ∀ q ∈ mi_146_1, decode mt_146.2.1 q.1 = .ok (q.2.1, q.2.2.1) ∧ q.2.2.1 = iln q.2.1 q.2.2.1 := by decide +kernel
theorem dk_146_2 : ∀ q ∈ mi_146_2, decode mt_146.2.1 q.1 = .ok (q.2.1, q.2.2.1) ∧ q.2.2.1 = iln q.2.1 q.2.2.1 := by decide +kernel
theorem dk_147_0 : ∀ q ∈ mi_147_0, decode mt_147.2.1 q.1 = .ok (q.2.1, q.2.2.1) ∧ q.2.2.1 = iln q.2.1 q.2.2.1 := by decide +kernel
theorem dk_148_0 : ∀ q ∈ mi_148_0, decode mt_148.2.1 q.1 = .ok (q.2.1, q.2.2.1) ∧ q.2.2.1 = iln q.2.1 q.2.2.1 := by decide +kernel
theorem dk_149_0 : ∀ q ∈ mi_149_0, decode mt_149.2.1 q.1 = .ok (q.2.1, q.2.2.1) ∧ q.2.2.1 = iln q.2.1 q.2.2.1 := by decide +kernel
theorem dk_150_0 : ∀ q ∈ mi_150_0, decode mt_150.2.1 q.1 = .ok (q.2.1, q.2.2.1) ∧ q.2.2.1 = iln q.2.1 q.2.2.1 := by decide +kernel
theorem dk_151_0 : ∀ q ∈ mi_151_0, decode mt_151.2.1 q.1 = .ok (q.2.1, q.2.2.1) ∧ q.2.2.1 = iln q.2.1 q.2.2.1 := by decide +kernel
theorem dk_151_1 : ∀ q ∈ mi_151_1, decode mt_151.2.1 q.1 = .ok (q.2.1, q.2.2.1) ∧ q.2.2.1 = iln q.2.1 q.2.2.1 := by decide +kernel
theorem dk_152_0 : ∀ q ∈ mi_152_0, decode mt_152.2.1 q.1 = .ok (q.2.1, q.2.2.1) ∧ q.2.2.1 = iln q.2.1 q.2.2.1 := by decide +kernel
theorem dk_153_0 : ∀ q ∈ mi_153_0, decode mt_153.2.1 q.1 = .ok (q.2.1, q.2.2.1) ∧ q.2.2.1 = iln q.2.1 q.2.2.1 := by decide +kernel
theorem dk_154_0 : ∀ q ∈ mi_154_0, decode mt_154.2.1 q.1 = .ok (q.2.1, q.2.2.1) ∧ q.2.2.1 = iln q.2.1 q.2.2.1 := by decide +kernel
theorem dk_155_0 : ∀ q ∈ mi_155_0, decode mt_155.2.1 q.1 = .ok (q.2.1, q.2.2.1) ∧ q.2.2.1 = iln q.2.1 q.2.2.1 := by decide +kernel
theorem dk_155_1 : ∀ q ∈ mi_155_1, decode mt_155.2.1 q.1 = .ok (q.2.1, q.2.2.1) ∧ q.2.2.1 = iln q.2.1 q.2.2.1 := by decide +kernel
theorem dk_156_0 : ∀ q ∈ mi_156_0, decode mt_156.2.1 q.1 = .ok (q.2.1, q.2.2.1) ∧ q.2.2.1 = iln q.2.1 q.2.2.1 := by decide +kernel
theorem dk_157_0 : ∀ q ∈ mi_157_0, decode mt_157.2.1 q.1 = .ok (q.2.1, q.2.2.1) ∧ q.2.2.1 = iln q.2.1 q.2.2.1 := by decide +kernel
theorem dk_157_1 : ∀ q ∈ mi_157_1, decode mt_157.2.1 q.1 = .ok (q.2.1, q.2.2.1) ∧ q.2.2.1 = iln q.2.1 q.2.2.1 := by decide +kernel
theorem dk_158_0 : ∀ q ∈ mi_158_0, decode mt_158.2.1 q.1 = .ok (q.2.1, q.2.2.1) ∧ q.2.2.1 = iln q.2.1 q.2.2.1 := by decide +kernel
theorem dk_158_1 : ∀ q ∈ mi_158_1, decode mt_158.2.1 q.1 = .ok (q.2.1, q.2.2.1) ∧ q.2.2.1 = iln q.2.1 q.2.2.1 := by decide +kernel
theorem dk_159_0 : ∀ q ∈ mi_159_0, decode mt_159.2.1 q.1 = .ok (q.2.1, q.2.2.1) ∧ q.2.2.1 = iln q.2.1 q.2.2.1 := by decide +kernel
theorem dk_160_0 : ∀ q ∈ mi_160_0, decode mt_160.2.1 q.1 = .ok (q.2.1, q.2.2.1) ∧ q.2.2.1 = iln q.2.1 q.2.2.1 := by decide +kernel
theorem dk_160_1 : ∀ q ∈ mi_160_1, decode mt_160.2.1 q.1 = .ok (q.2.1, q.2.2.1) ∧ q.2.2.1 = iln q.2.1 q.2.2.1 := by decide +kernel
theorem dk_161_0 : ∀ q ∈ mi_161_0, decode mt_161.2.1 q.1 = .ok (q.2.1, q.2.2.1) ∧ q.2.2.1 = iln q.2.1 q.2.2.1 := by decide +kernel
theorem dk_162_0 : ∀ q ∈ mi_162_0, decode mt_162.2.1 q.1 = .ok (q.2.1, q.2.2.1) ∧ q.2.2.1 = iln q.2.1 q.2.2.1 := by decide +kernel
theorem dk_163_0 : ∀ q ∈ mi_163_0, decode mt_163.2.1 q.1 = .ok (q.2.1, q.2.2.1) ∧ q.2.2.1 = iln q.2.1 q.2.2.1 := by decide +kernel
theorem dk_164_0 : ∀ q ∈ mi_164_0, decode mt_164.2.1 q.1 = .ok (q.2.1, q.2.2.1) ∧ q.2.2.1 = iln q.2.1 q.2.2.1 := by decide +kernel
theorem dk_165_0 : ∀ q ∈ mi_165_0, decode mt_165.2.1 q.1 = .ok (q.2.1, q.2.2.1) ∧ q.2.2.1 = iln q.2.1 q.2.2.1 := by decide +kernel
theorem dk_166_0 : ∀ q ∈ mi_166_0, decode mt_166.2.1 q.1 = .ok (q.2.1, q.2.2.1) ∧ q.2.2.1 = iln q.2.1 q.2.2.1 := by decide +kernel
theorem dk_167_0 : ∀ q ∈ mi_167_0, decode mt_167.2.1 q.1 = .ok (q.2.1, q.2.2.1) ∧ q.2.2.1 = iln q.2.1 q.2.2.1 := by decide +kernel
theorem dk_168_0 : ∀ q ∈ mi_168_0, decode mt_168.2.1 q.1 = .ok (q.2.1, q.2.2.1) ∧ q.2.2.1 = iln q.2.1 q.2.2.1 := by decide +kernel
theorem dk_169_0 : ∀ q ∈ mi_169_0, decode mt_169.2.1 q.1 = .ok (q.2.1, q.2.2.1) ∧ q.2.2.1 = iln q.2.1 q.2.2.1 := by decide +kernel
theorem dk_170_0 : ∀ q ∈ mi_170_0, decode mt_170.2.1 q.1 = .ok (q.2.1, q.2.2.1) ∧ q.2.2.1 = iln q.2.1 q.2.2.1 := by decide +kernel
theorem dk_171_0 : ∀ q ∈ mi_171_0, decode mt_171.2.1 q.1 = .ok (q.2.1, q.2.2.1) ∧ q.2.2.1 = iln q.2.1 q.2.2.1 := by decide +kernel
theorem dk_171_1 : ∀ q ∈ mi_171_1, decode mt_171.2.1 q.1 = .ok (q.2.1, q.2.2.1) ∧ q.2.2.1 = iln q.2.1 q.2.2.1 := by decide +kernel
theorem dk_172_0 : ∀ q ∈ mi_172_0, decode mt_172.2.1 q.1 = .ok (q.2.1, q.2.2.1) ∧ q.2.2.1 = iln q.2.1 q.2.2.1 := by decide +kernel
theorem dk_173_0 : ∀ q ∈ mi_173_0, decode mt_173.2.1 q.1 = .ok (q.2.1, q.2.2.1) ∧ q.2.2.1 = iln q.2.1 q.2.2.1 := by decide +kernel
theorem dk_173_1 : ∀ q ∈ mi_173_1, decode mt_173.2.1 q.1 = .ok (q.2.1, q.2.2.1) ∧ q.2.2.1 = iln q.2.1 q.2.2.1 := by decide +kernel
theorem dk_174_0 : ∀ q ∈ mi_174_0, decode mt_174.2.1 q.1 = .ok (q.2.1, q.2.2.1) ∧ q.2.2.1 = iln q.2.1 q.2.2.1 := by decide +kernel
theorem dk_175_0 : ∀ q ∈ mi_175_0, decode mt_175.2.1 q.1 = .ok (q.2.1, q.2.2.1) ∧ q.2.2.1 = iln q.2.1 q.2.2.1 := by decide +kernel
theorem dk_176_0 : ∀ q ∈ mi_176_0, decode mt_176.2.1 q.1 = .ok (q.2.1, q.2.2.1) ∧ q.2.2.1 = iln q.2.1 q.2.2.1 := by decide +kernel
theorem dk_177_0 : ∀ q ∈ mi_177_0, decode mt_177.2.1 q.1 = .ok (q.2.1, q.2.2.1) ∧ q.2.2.1 = iln q.2.1 q.2.2.1 := by decide +kernel
theorem dk_178_0 : ∀ q ∈ mi_178_0, decode mt_178.2.1 q.1 = .ok (q.2.1, q.2.2.1) ∧ q.2.2.1 = iln q.2.1 q.2.2.1 := by decide +kernel
theorem dk_179_0 : ∀ q ∈ mi_179_0, decode mt_179.2.1 q.1 = .ok (q.2.1, q.2.2.1) ∧ q.2.2.1 = iln q.2.1 q.2.2.1 := by decide +kernel
theorem dk_180_0 : ∀ q ∈ mi_180_0, decode mt_180.2.1 q.1 = .ok (q.2.1, q.2.2.1) ∧ q.2.2.1 = iln q.2.1 q.2.2.1 := by decide +kernel
theorem dk_181_0 : ∀ q ∈ mi_181_0, decode mt_181.2.1 q.1 = .ok (q.2.1, q.2.2.1) ∧ q.2.2.1 = iln q.2.1 q.2.2.1 := by decide +kernel
theorem dk_182_0 : ∀ q ∈ mi_182_0, decode mt_182.2.1 q.1 = .ok (q.2.1, q.2.2.1) ∧ q.2.2.1 = iln q.2.1 q.2.2.1 := by decide +kernel
theorem dk_183_0 : ∀ q ∈ mi_183_0, decode mt_183.2.1 q.1 = .ok (q.2.1, q.2.2.1) ∧ q.2.2.1 = iln q.2.1 q.2.2.1 := by decide +kernel
theorem dk_184_0 : ∀ q ∈ mi_184_0, decode mt_184.2.1 q.1 = .ok (q.2.1, q.2.2.1) ∧ q.2.2.1 = iln q.2.1 q.2.2.1 := by decide +kernel
theorem dk_185_0 : ∀ q ∈ mi_185_0, decode mt_185.2.1 q.1 = .ok (q.2.1, q.2.2.1) ∧ q.2.2.1 = iln q.2.1 q.2.2.1 := by decide +kernel
theorem dk_186_0 : ∀ q ∈ mi_186_0, decode mt_186.2.1 q.1 = .ok (q.2.1, q.2.2.1) ∧ q.2.2.1 = iln q.2.1 q.2.2.1 := by decide +kernel
theorem dk_187_0 : ∀ q ∈ mi_187_0, decode mt_187.2.1 q.1 = .ok (q.2.1, q.2.2.1) ∧ q.2.2.1 = iln q.2.1 q.2.2.1 := by decide +kernel
theorem dk_188_0 : ∀ q ∈ mi_188_0, decode mt_188.2.1 q.1 = .ok (q.2.1, q.2.2.1) ∧ q.2.2.1 = iln q.2.1 q.2.2.1 := by decide +kernel
theorem dk_189_0 : ∀ q ∈ mi_189_0, decode mt_189.2.1 q.1 = .ok (q.2.1, q.2.2.1) ∧ q.2.2.1 = iln q.2.1 q.2.2.1 := by decide +kernel
theorem dk_189_1 : ∀ q ∈ mi_189_1, decode mt_189.2.1 q.1 = .ok (q.2.1, q.2.2.1) ∧ q.2.2.1 = iln q.2.1 q.2.2.1 := by decide +kernel
theorem dk_190_0 : ∀ q ∈ mi_190_0, decode mt_190.2.1 q.1 = .ok (q.2.1, q.2.2.1) ∧ q.2.2.1 = iln q.2.1 q.2.2.1 := by decide +kernel
theorem dk_191_0 : ∀ q ∈ mi_191_0, decode mt_191.2.1 q.1 = .ok (q.2.1, q.2.2.1) ∧ q.2.2.1 = iln q.2.1 q.2.2.1 := by decide +kernel
theorem dk_192_0 : ∀ q ∈ mi_192_0, decode mt_192.2.1 q.1 = .ok (q.2.1, q.2.2.1) ∧ q.2.2.1 = iln q.2.1 q.2.2.1 := by decide +kernel
theorem dk_192_1 : ∀ q ∈ mi_192_1, decode mt_192.2.1 q.1 = .ok (q.2.1, q.2.2.1) ∧ q.2.2.1 = iln q.2.1 q.2.2.1 := by decide +kernel
theorem dk_193_0 : ∀ q ∈ mi_193_0, decode mt_193.2.1 q.1 = .ok (q.2.1, q.2.2.1) ∧ q.2.2.1 = iln q.2.1 q.2.2.1 := by decide +kernel
theorem dk_194_0 : ∀ q ∈ mi_194_0, decode mt_194.2.1 q.1 = .ok (q.2.1, q.2.2.1) ∧ q.2.2.1 = iln q.2.1 q.2.2.1 := by decide +kernel
theorem dk_195_0 : ∀ q ∈ mi_195_0, decode mt_195.2.1 q.1 = .ok (q.2.1, q.2.2.1) ∧ q.2.2.1 = iln q.2.1 q.2.2.1 := by decide +kernel
theorem dk_196_0 : ∀ q ∈ mi_196_0, decode mt_196.2.1 q.1 = .ok (q.2.1, q.2.2.1) ∧ q.2.2.1 = iln q.2.1 q.2.2.1 := by decide +kernel
theorem dk_197_0 : ∀ q ∈ mi_197_0, decode mt_197.2.1 q.1 = .ok (q.2.1, q.2.2.1) ∧ q.2.2.1 = iln q.2.1 q.2.2.1 := by decide +kernel
theorem dk_198_0 : ∀ q ∈ mi_198_0, decode mt_198.2.1 q.1 = .ok (q.2.1, q.2.2.1) ∧ q.2.2.1 = iln q.2.1 q.2.2.1 := by decide +kernel
theorem dk_199_0 : ∀ q ∈ mi_199_0, decode mt_199.2.1 q.1 = .ok (q.2.1, q.2.2.1) ∧ q.2.2.1 = iln q.2.1 q.2.2.1 := by decide +kernel
theorem dk_200_0 : ∀ q ∈ mi_200_0, decode mt_200.2.1 q.1 = .ok (q.2.1, q.2.2.1) ∧ q.2.2.1 = iln q.2.1 q.2.2.1 := by decide +kernel
theorem dk_200_1 : ∀ q ∈ mi_200_1, decode mt_200.2.1 q.1 = .ok (q.2.1, q.2.2.1) ∧ q.2.2.1 = iln q.2.1 q.2.2.1 := by decide +kernel
theorem dk_201_0 : ∀ q ∈ mi_201_0, decode mt_201.2.1 q.1 = .ok (q.2.1, q.2.2.1) ∧ q.2.2.1 = iln q.2.1 q.2.2.1 := by decide +kernel
theorem dk_202_0 : ∀ q ∈ mi_202_0, decode mt_202.2.1 q.1 = .ok (q.2.1, q.2.2.1) ∧ q.2.2.1 = iln q.2.1 q.2.2.1 := by decide +kernel
theorem dk_203_0 : ∀ q ∈ mi_203_0, decode mt_203.2.1 q.1 = .ok (q.2.1, q.2.2.1) ∧ q.2.2.1 = iln q.2.1 q.2.2.1 := by decide +kernel
theorem dk_204_0 : ∀ q ∈ mi_204_0, decode mt_204.2.1 q.1 = .ok (q.2.1, q.2.2.1) ∧ q.2.2.1 = iln q.2.1 q.2.2.1 := by decide +kernel
theorem dk_205_0 : ∀ q ∈ mi_205_0, decode mt_205.2.1 q.1 = .ok (q.2.1, q.2.2.1) ∧ q.2.2.1 = iln q.2.1 q.2.2.1 := by decide +kernel
theorem dk_206_0 : ∀ q ∈ mi_206_0, decode mt_206.2.1 q.1 = .ok (q.2.1, q.2.2.1) ∧ q.2.2.1 = iln q.2.1 q.2.2.1 := by decide +kernel
theorem dk_207_0 : ∀ q ∈ mi_207_0, decode mt_207.2.1 q.1 = .ok (q.2.1, q.2.2.1) ∧ q.2.2.1 = iln q.2.1 q.2.2.1 := by decide +kernel
theorem dk_208_0 : ∀ q ∈ mi_208_0, decode mt_208.2.1 q.1 = .ok (q.2.1, q.2.2.1) ∧ q.2.2.1 = iln q.2.1 q.2.2.1 := by decide +kernel
theorem dk_209_0 : ∀ q ∈ mi_209_0, decode mt_209.2.1 q.1 = .ok (q.2.1, q.2.2.1) ∧ q.2.2.1 = iln q.2.1 q.2.2.1 := by decide +kernel
theorem dk_210_0 : ∀ q ∈ mi_210_0, decode mt_210.2.1 q.1 = .ok (q.2.1, q.2.2.1) ∧ q.2.2.1 = iln q.2.1 q.2.2.1 := by decide +kernel
theorem dk_211_0 : ∀ q ∈ mi_211_0, decode mt_211.2.1 q.1 = .ok (q.2.1, q.2.2.1) ∧ q.2.2.1 = iln q.2.1 q.2.2.1 := by decide +kernel
theorem dk_212_0 : ∀ q ∈ mi_212_0, decode mt_212.2.1 q.1 = .ok (q.2.1, q.2.2.1) ∧ q.2.2.1 = iln q.2.1 q.2.2.1 := by decide +kernel
theorem dk_213_0 : ∀ q ∈ mi_213_0, decode mt_213.2.1 q.1 = .ok (q.2.1, q.2.2.1) ∧ q.2.2.1 = iln q.2.1 q.2.2.1 := by decide +kernel
theorem dk_214_0 : ∀ q ∈ mi_214_0, decode mt_214.2.1 q.1 = .ok (q.2.1, q.2.2.1) ∧ q.2.2.1 = iln q.2.1 q.2.2.1 := by decide +kernel
theorem dk_214_1 : ∀ q ∈ mi_214_1, decode mt_214.2.1 q.1 = .ok (q.2.1, q.2.2.1) ∧ q.2.2.1 = iln q.2.1 q.2.2.1 := by decide +kernel
theorem dk_214_2 : ∀ q ∈ mi_214_2, decode mt_214.2.1 q.1 = .ok (q.2.1, q.2.2.1) ∧ q.2.2.1 = iln q.2.1 q.2.2.1 := by decide +kernel
theorem dk_215_0 : ∀ q ∈ mi_215_0, decode mt_215.2.1 q.1 = .ok (q.2.1, q.2.2.1) ∧ q.2.2.1 = iln q.2.1 q.2.2.1 := by decide +kernel
theorem dk_216_0 : ∀ q ∈ mi_216_0, decode mt_216.2.1 q.1 = .ok (q.2.1, q.2.2.1) ∧ q.2.2.1 = iln q.2.1 q.2.2.1 := by decide +kernel
theorem dk_216_1 : ∀ q ∈ mi_216_1, decode mt_216.2.1 q.1 = .ok (q.2.1, q.2.2.1) ∧ q.2.2.1 = iln q.2.1 q.2.2.1 := by decide +kernel
theorem dk_217_0 : ∀ q ∈ mi_217_0, decode mt_217.2.1 q.1 = .ok (q.2.1, q.2.2.1) ∧ q.2.2.1 = iln q.2.1 q.2.2.1 := by decide +kernel
theorem dk_217_1 : ∀ q ∈ mi_217_1, decode mt_217.2.1 q.1 = .ok (q.2.1, q.2.2.1) ∧ q.2.2.1 = iln q.2.1 q.2.2.1 := by decide +kernel
theorem dk_218_0 : ∀ q ∈ mi_218_0, decode mt_218.2.1 q.1 = .ok (q.2.1, q.2.2.1) ∧ q.2.2.1 = iln q.2.1 q.2.2.1 := by decide +kernel
theorem dk_219_0 : ∀ q ∈ mi_219_0, decode mt_219.2.1 q.1 = .ok (q.2.1, q.2.2.1) ∧ q.2.2.1 = iln q.2.1 q.2.2.1 := by decide +kernel
theorem dk_220_0 : ∀ q ∈ mi_220_0, decode mt_220.2.1 q.1 = .ok (q.2.1, q.2.2.1) ∧ q.2.2.1 = iln q.2.1 q.2.2.1 := by decide +kernel
theorem dk_221_0 : ∀ q ∈ mi_221_0, decode mt_221.2.1 q.1 = .ok (q.2.1, q.2.2.1) ∧ q.2.2.1 = iln q.2.1 q.2.2.1 := by decide +kernel
theorem dk_222_0 : ∀ q ∈ mi_222_0, decode mt_222.2.1 q.1 = .ok (q.2.1, q.2.2.1) ∧ q.2.2.1 = iln q.2.1 q.2.2.1 := by decide +kernel
theorem dk_223_0 : ∀ q ∈ mi_223_0, decode mt_223.2.1 q.1 = .ok (q.2.1, q.2.2.1) ∧ q.2.2.1 = iln q.2.1 q.2.2.1 := by decide +kernel
theorem dk_223_1 : ∀ q ∈ mi_223_1, decode mt_223.2.1 q.1 = .ok (q.2.1, q.2.2.1) ∧ q.2.2.1 = iln q.2.1 q.2.2.1 := by decide +kernel
theorem dk_224_0 : ∀ q ∈ mi_224_0, decode mt_224.2.1 q.1 = .ok (q.2.1, q.2.2.1) ∧ q.2.2.1 = iln q.2.1 q.2.2.1 := by decide +kernel
theorem dk_225_0 : ∀ q ∈ mi_225_0, decode mt_225.2.1 q.1 = .ok (q.2.1, q.2.2.1) ∧ q.2.2.1 = iln q.2.1 q.2.2.1 := by decide +kernel
theorem dk_226_0 : ∀ q ∈ mi_226_0, decode mt_226.2.1 q.1 = .ok (q.2.1, q.2.2.1) ∧ q.2.2.1 = iln q.2.1 q.2.2.1 := by decide +kernel
theorem dk_226_1 : ∀ q ∈ mi_226_1, decode mt_226.2.1 q.1 = .ok (q.2.1, q.2.2.1) ∧ q.2.2.1 = iln q.2.1 q.2.2.1 := by decide +kernel
theorem dk_227_0 : ∀ q ∈ mi_227_0, decode mt_227.2.1 q.1 = .ok (q.2.1, q.2.2.1) ∧ q.2.2.1 = iln q.2.1 q.2.2.1 := by decide +kernel
theorem dk_227_1 : ∀ q ∈ mi_227_1, decode mt_227.2.1 q.1 = .ok (q.2.1, q.2.2.1) ∧ q.2.2.1 = iln q.2.1 q.2.2.1 := by decide +kernel
theorem dk_227_2 : ∀ q ∈ mi_227_2, decode mt_227.2.1 q.1 = .ok (q.2.1, q.2.2.1) ∧ q.2.2.1 = iln q.2.1 q.2.2.1 := by decide +kernel
theorem dk_228_0 : ∀ q ∈ mi_228_0, decode mt_228.2.1 q.1 = .ok (q.2.1, q.2.2.1) ∧ q.2.2.1 = iln q.2.1 q.2.2.1 := by decide +kernel
theorem dk_228_1 : ∀ q ∈ mi_228_1, decode mt_228.2.1 q.1 = .ok (q.2.1, q.2.2.1) ∧ q.2.2.1 = iln q.2.1 q.2.2.1 := by decide +kernel
theorem dk_229_0 : ∀ q ∈ mi_229_0, decode mt_229.2.1 q.1 = .ok (q.2.1, q.2.2.1) ∧ q.2.2.1 = iln q.2.1 q.2.2.1 := by decide +kernel
theorem dk_230_0 : ∀ q ∈ mi_230_0, decode mt_230.2.1 q.1 = .ok (q.2.1, q.2.2.1) ∧ q.2.2.1 = iln q.2.1 q.2.2.1 := by decide +kernel
theorem dk_231_0 : ∀ q ∈ mi_231_0, decode mt_231.2.1 q.1 = .ok (q.2.1, q.2.2.1) ∧ q.2.2.1 = iln q.2.1 q.2.2.1 := by decide +kernel
theorem dk_232_0 : ∀ q ∈ mi_232_0, decode mt_232.2.1 q.1 = .ok (q.2.1, q.2.2.1) ∧ q.2.2.1 = iln q.2.1 q.2.2.1 := by decide +kernel
theorem dk_233_0 : ∀ q ∈ mi_233_0, decode mt_233.2.1 q.1 = .ok (q.2.1, q.2.2.1) ∧ q.2.2.1 = iln q.2.1 q.2.2.1 := by decide +kernel
theorem dk_234_0 : ∀ q ∈ mi_234_0, decode mt_234.2.1 q.1 = .ok (q.2.1, q.2.2.1) ∧ q.2.2.1 = iln q.2.1 q.2.2.1 := by decide +kernel
theorem dk_234_1 : ∀ q ∈ mi_234_1, decode mt_234.2.1 q.1 = .ok (q.2.1, q.2.2.1) ∧ q.2.2.1 = iln q.2.1 q.2.2.1 := by decide +kernel
theorem dk_235_0 : ∀ q ∈ mi_235_0, decode mt_235.2.1 q.1 = .ok (q.2.1, q.2.2.1) ∧ q.2.2.1 = iln q.2.1 q.2.2.1 := by decide +kernel
theorem dk_236_0 : ∀ q ∈ mi_236_0, decode mt_236.2.1 q.1 = .ok (q.2.1, q.2.2.1) ∧ q.2.2.1 = iln q.2.1 q.2.2.1 := by decide +kernel
theorem dk_237_0 : ∀ q ∈ mi_237_0, decode mt_237.2.1 q.1 = .ok (q.2.1, q.2.2.1) ∧ q.2.2.1 = iln q.2.1 q.2.2.1 := by decide +kernel
theorem dk_238_0 : ∀ q ∈ mi_238_0, decode mt_238.2.1 q.1 = .ok (q.2.1, q.2.2.1) ∧ q.2.2.1 = iln q.2.1 q.2.2.1 := by decide +kernel
theorem dk_238_1 : ∀ q ∈ mi_238_1, decode mt_238.2.1 q.1 = .ok (q.2.1, q.2.2.1) ∧ q.2.2.1 = iln q.2.1 q.2.2.1 := by decide +kernel
theorem dk_239_0 : ∀ q ∈ mi_239_0, decode mt_239.2.1 q.1 = .ok (q.2.1, q.2.2.1) ∧ q.2.2.1 = iln q.2.1 q.2.2.1 := by decide +kernel
theorem dk_239_1 : ∀ q ∈ mi_239_1, decode mt_239.2.1 q.1 = .ok (q.2.1, q.2.2.1) ∧ q.2.2.1 = iln q.2.1 q.2.2.1 := by decide +kernel
theorem dk_240_0 : ∀ q ∈ mi_240_0, decode mt_240.2.1 q.1 = .ok (q.2.1, q.2.2.1) ∧ q.2.2.1 = iln q.2.1 q.2.2.1 := by decide +kernel
theorem dk_241_0 : ∀ q ∈ mi_241_0, decode mt_241.2.1 q.1 = .ok (q.2.1, q.2.2.1) ∧ q.2.2.1 = iln q.2.1 q.2.2.1 := by decide +kernel
theorem dk_242_0 : ∀ q ∈ mi_242_0, decode mt_242.2.1 q.1 = .ok (q.2.1, q.2.2.1) ∧ q.2.2.1 = iln q.2.1 q.2.2.1 := by decide +kernel
theorem dk_243_0 : ∀ q ∈ mi_243_0, decode mt_243.2.1 q.1 = .ok (q.2.1, q.2.2.1) ∧ q.2.2.1 = iln q.2.1 q.2.2.1 := by decide +kernel
theorem dk_243_1 : ∀ q ∈ mi_243_1, decode mt_243.2.1 q.1 = .ok (q.2.1, q.2.2.1) ∧ q.2.2.1 = iln q.2.1 q.2.2.1 := by decide +kernel
theorem dk_244_0 : ∀ q ∈ mi_244_0, decode mt_244.2.1 q.1 = .ok (q.2.1, q.2.2.1) ∧ q.2.2.1 = iln q.2.1 q.2.2.1 := by decide +kernel
theorem dk_244_1 : ∀ q ∈ mi_244_1, decode mt_244.2.1 q.1 = .ok (q.2.1, q.2.2.1) ∧ q.2.2.1 = iln q.2.1 q.2.2.1 := by decide +kernel
theorem dk_245_0 : ∀ q ∈ mi_245_0, decode mt_245.2.1 q.1 = .ok (q.2.1, q.2.2.1) ∧ q.2.2.1 = iln q.2.1 q.2.2.1 := by decide +kernel
theorem dk_246_0 : ∀ q ∈ mi_246_0, decode mt_246.2.1 q.1 = .ok (q.2.1, q.2.2.1) ∧ q.2.2.1 = iln q.2.1 q.2.2.1 := by decide +kernel
theorem dk_247_0 : ∀ q ∈ mi_247_0, decode mt_247.2.1 q.1 = .ok (q.2.1, q.2.2.1) ∧ q.2.2.1 = iln q.2.1 q.2.2.1 := by decide +kernel
theorem dk_248_0 : ∀ q ∈ mi_248_0, decode mt_248.2.1 q.1 = .ok (q.2.1, q.2.2.1) ∧ q.2.2.1 = iln q.2.1 q.2.2.1 := by decide +kernel
theorem dk_249_0 : ∀ q ∈ mi_249_0, decode mt_249.2.1 q.1 = .ok (q.2.1, q.2.2.1) ∧ q.2.2.1 = iln q.2.1 q.2.2.1 := by decide +kernel
theorem dk_249_1 : ∀ q ∈ mi_249_1, decode mt_249.2.1 q.1 = .ok (q.2.1, q.2.2.1) ∧ q.2.2.1 = iln q.2.1 q.2.2.1 := by decide +kernel
theorem dk_249_2 : ∀ q ∈ mi_249_2, decode mt_249.2.1 q.1 = .ok (q.2.1, q.2.2.1) ∧ q.2.2.1 = iln q.2.1 q.2.2.1 := by decide +kernel
theorem dk_250_0 : ∀ q ∈ mi_250_0, decode mt_250.2.1 q.1 = .ok (q.2.1, q.2.2.1) ∧ q.2.2.1 = iln q.2.1 q.2.2.1 := by decide +kernel
theorem dk_250_1 : ∀ q ∈ mi_250_1, decode mt_250.2.1 q.1 = .ok (q.2.1, q.2.2.1) ∧ q.2.2.1 = iln q.2.1 q.2.2.1 := by decide +kernel
theorem dk_250_2 : ∀ q ∈ mi_250_2, decode mt_250.2.1 q.1 = .ok (q.2.1, q.2.2.1) ∧ q.2.2.1 = iln q.2.1 q.2.2.1 := by decide +kernel
theorem dk_251_0 : ∀ q ∈ mi_251_0, decode mt_251.2.1 q.1 = .ok (q.2.1, q.2.2.1) ∧ q.2.2.1 = iln q.2.1 q.2.2.1 := by decide +kernel
theorem dk_252_0 : ∀ q ∈ mi_252_0, decode mt_252.2.1 q.1 = .ok (q.2.1, q.2.2.1) ∧ q.2.2.1 = iln q.2.1 q.2.2.1 := by decide +kernel
theorem dk_252_1 : ∀ q ∈ mi_252_1, decode mt_252.2.1 q.1 = .ok (q.2.1, q.2.2.1) ∧ q.2.2.1 = iln q.2.1 q.2.2.1 := by decide +kernel
theorem dk_253_0 : ∀ q ∈ mi_253_0, decode mt_253.2.1 q.1 = .ok (q.2.1, q.2.2.1) ∧ q.2.2.1 = iln q.2.1 q.2.2.1 := by decide +kernel
theorem dk_254_0 : ∀ q ∈ mi_254_0, decode mt_254.2.1 q.1 = .ok (q.2.1, q.2.2.1) ∧ q.2.2.1 = iln q.2.1 q.2.2.1 := by decide +kernel
theorem dk_254_1 : ∀ q ∈ mi_254_1, decode mt_254.2.1 q.1 = .ok (q.2.1, q.2.2.1) ∧ q.2.2.1 = iln q.2.1 q.2.2.1 := by decide +kernel
theorem dk_255_0 : ∀ q ∈ mi_255_0, decode mt_255.2.1 q.1 = .ok (q.2.1, q.2.2.1) ∧ q.2.2.1 = iln q.2.1 q.2.2.1 := by decide +kernel
theorem dk_256_0 : ∀ q ∈ mi_256_0, decode mt_256.2.1 q.1 = .ok (q.2.1, q.2.2.1) ∧ q.2.2.1 = iln q.2.1 q.2.2.1 := by decide +kernel
theorem dk_257_0 : ∀ q ∈ mi_257_0, decode mt_257.2.1 q.1 = .ok (q.2.1, q.2.2.1) ∧ q.2.2.1 = iln q.2.1 q.2.2.1 := by decide +kernel
theorem dk_257_1 : ∀ q ∈ mi_257_1, decode mt_257.2.1 q.1 = .ok (q.2.1, q.2.2.1) ∧ q.2.2.1 = iln q.2.1 q.2.2.1 := by decide +kernel
theorem dk_257_2 : ∀ q ∈ mi_257_2, decode mt_257.2.1 q.1 = .ok (q.2.1, q.2.2.1) ∧ q.2.2.1 = iln q.2.1 q.2.2.1 := by decide +kernel
theorem dk_258_0 : ∀ q ∈ mi_258_0, decode mt_258.2.1 q.1 = .ok (q.2.1, q.2.2.1) ∧ q.2.2.1 = iln q.2.1 q.2.2.1 := by decide +kernel
theorem dk_259_0 : ∀ q ∈ mi_259_0, decode mt_259.2.1 q.1 = .ok (q.2.1, q.2.2.1) ∧ q.2.2.1 = iln q.2.1 q.2.2.1 := by decide +kernel
theorem dk_260_0 : ∀ q ∈ mi_260_0, decode mt_260.2.1 q.1 = .ok (q.2.1, q.2.2.1) ∧ q.2.2.1 = iln q.2.1 q.2.2.1 := by decide +kernel
theorem dk_261_0 : ∀ q ∈ mi_261_0, decode mt_261.2.1 q.1 = .ok (q.2.1, q.2.2.1) ∧ q.2.2.1 = iln q.2.1 q.2.2.1 := by decide +kernel
theorem dk_262_0 : ∀ q ∈ mi_262_0, decode mt_262.2.1 q.1 = .ok (q.2.1, q.2.2.1) ∧ q.2.2.1 = iln q.2.1 q.2.2.1 := by decide +kernel
theorem dk_263_0 : ∀ q ∈ mi_263_0, decode mt_263.2.1 q.1 = .ok (q.2.1, q.2.2.1) ∧ q.2.2.1 = iln q.2.1 q.2.2.1 := by decide +kernel
theorem dk_264_0 : ∀ q ∈ mi_264_0, decode mt_264.2.1 q.1 = .ok (q.2.1, q.2.2.1) ∧ q.2.2.1 = iln q.2.1 q.2.2.1 := by decide +kernel
theorem dk_265_0 : ∀ q ∈ mi_265_0, decode mt_265.2.1 q.1 = .ok (q.2.1, q.2.2.1) ∧ q.2.2.1 = iln q.2.1 q.2.2.1 := by decide +kernel
theorem dk_265_1 : ∀ q ∈ mi_265_1, decode mt_265.2.1 q.1 = .ok (q.2.1, q.2.2.1) ∧ q.2.2.1 = iln q.2.1 q.2.2.1 := by decide +kernel
theorem dk_266_0 : ∀ q ∈ mi_266_0, decode mt_266.2.1 q.1 = .ok (q.2.1, q.2.2.1) ∧ q.2.2.1 = iln q.2.1 q.2.2.1 := by decide +kernel
theorem dk_267_0 : ∀ q ∈ mi_267_0, decode mt_267.2.1 q.1 = .ok (q.2.1, q.2.2.1) ∧ q.2.2.1 = iln q.2.1 q.2.2.1 := by decide +kernel
theorem dk_268_0 : ∀ q ∈ mi_268_0, decode mt_268.2.1 q.1 = .ok (q.2.1, q.2.2.1) ∧ q.2.2.1 = iln q.2.1 q.2.2.1 := by decide +kernel
theorem dk_269_0 : ∀ q ∈ mi_269_0, decode mt_269.2.1 q.1 = .ok (q.2.1, q.2.2.1) ∧ q.2.2.1 = iln q.2.1 q.2.2.1 := by decide +kernel
theorem dk_270_0 : ∀ q ∈ mi_270_0, decode mt_270.2.1 q.1 = .ok (q.2.1, q.2.2.1) ∧ q.2.2.1 = iln q.2.1 q.2.2.1 := by decide +kernel
theorem dk_271_0 : ∀ q ∈ mi_271_0, decode mt_271.2.1 q.1 = .ok (q.2.1, q.2.2.1) ∧ q.2.2.1 = iln q.2.1 q.2.2.1 := by decide +kernel
theorem dk_272_0 : ∀ q ∈ mi_272_0, decode mt_272.2.1 q.1 = .ok (q.2.1, q.2.2.1) ∧ q.2.2.1 = iln q.2.1 q.2.2.1 := by decide +kernel
theorem dk_273_0 : ∀ q ∈ mi_273_0, decode mt_273.2.1 q.1 = .ok (q.2.1, q.2.2.1) ∧ q.2.2.1 = iln q.2.1 q.2.2.1 := by decide +kernel
theorem dk_274_0 : ∀ q ∈ mi_274_0, decode mt_274.2.1 q.1 = .ok (q.2.1, q.2.2.1) ∧ q.2.2.1 = iln q.2.1 q.2.2.1 := by decide +kernel
theorem dk_275_0 : ∀ q ∈ mi_275_0, decode mt_275.2.1 q.1 = .ok (q.2.1, q.2.2.1) ∧ q.2.2.1 = iln q.2.1 q.2.2.1 := by decide +kernel
theorem dk_276_0 : ∀ q ∈ mi_276_0, decode mt_276.2.1 q.1 = .ok (q.2.1, q.2.2.1) ∧ q.2.2.1 = iln q.2.1 q.2.2.1 := by decide +kernel
theorem dk_277_0 : ∀ q ∈ mi_277_0, decode mt_277.2.1 q.1 = .ok (q.2.1, q.2.2.1) ∧ q.2.2.1 = iln q.2.1 q.2.2.1 := by decide +kernel
theorem dk_278_0 : ∀ q ∈ mi_278_0, decode mt_278.2.1 q.1 = .ok (q.2.1, q.2.2.1) ∧ q.2.2.1 = iln q.2.1 q.2.2.1 := by decide +kernel
theorem dk_279_0 : ∀ q ∈ mi_279_0, decode mt_279.2.1 q.1 = .ok (q.2.1, q.2.2.1) ∧ q.2.2.1 = iln q.2.1 q.2.2.1 := by decide +kernel
theorem dk_280_0 : ∀ q ∈ mi_280_0, decode mt_280.2.1 q.1 = .ok (q.2.1, q.2.2.1) ∧ q.2.2.1 = iln q.2.1 q.2.2.1 := by decide +kernel
theorem dk_281_0 : ∀ q ∈ mi_281_0, decode mt_281.2.1 q.1 = .ok (q.2.1, q.2.2.1) ∧ q.2.2.1 = iln q.2.1 q.2.2.1 := by decide +kernel
theorem dk_282_0 : ∀ q ∈ mi_282_0, decode mt_282.2.1 q.1 = .ok (q.2.1, q.2.2.1) ∧ q.2.2.1 = iln q.2.1 q.2.2.1 := by decide +kernel
theorem dk_282_1 : ∀ q ∈ mi_282_1, decode mt_282.2.1 q.1 = .ok (q.2.1, q.2.2.1) ∧ q.2.2.1 = iln q.2.1 q.2.2.1 := by decide +kernel
theorem dk_283_0 : ∀ q ∈ mi_283_0, decode mt_283.2.1 q.1 = .ok (q.2.1, q.2.2.1) ∧ q.2.2.1 = iln q.2.1 q.2.2.1 := by decide +kernel
theorem dk_283_1 : ∀ q ∈ mi_283_1, decode mt_283.2.1 q.1 = .ok (q.2.1, q.2.2.1) ∧ q.2.2.1 = iln q.2.1 q.2.2.1 := by decide +kernel
theorem dk_284_0 : ∀ q ∈ mi_284_0, decode mt_284.2.1 q.1 = .ok (q.2.1, q.2.2.1) ∧ q.2.2.1 = iln q.2.1 q.2.2.1 := by decide +kernel
theorem dk_284_1 : ∀ q ∈ mi_284_1, decode mt_284.2.1 q.1 = .ok (q.2.1, q.2.2.1) ∧ q.2.2.1 = iln q.2.1 q.2.2.1 := by decide +kernel
theorem dk_285_0 : ∀ q ∈ mi_285_0, decode mt_285.2.1 q.1 = .ok (q.2.1, q.2.2.1) ∧ q.2.2.1 = iln q.2.1 q.2.2.1 := by decide +kernel
theorem dk_286_0 : ∀ q ∈ mi_286_0, decode mt_286.2.1 q.1 = .ok (q.2.1, q.2.2.1) ∧ q.2.2.1 = iln q.2.1 q.2.2.1 := by decide +kernel
theorem dk_287_0 : ∀ q ∈ mi_287_0, decode mt_287.2.1 q.1 = .ok (q.2.1, q.2.2.1) ∧ q.2.2.1 = iln q.2.1 q.2.2.1 := by decide +kernel
theorem dk_288_0 : ∀ q ∈ mi_288_0, decode mt_288.2.1 q.1 = .ok (q.2.1, q.2.2.1) ∧ q.2.2.1 = iln q.2.1 q.2.2.1 := by decide +kernel
theorem dk_289_0 : ∀ q ∈ mi_289_0, decode mt_289.2.1 q.1 = .ok (q.2.1, q.2.2.1) ∧ q.2.2.1 = iln q.2.1 q.2.2.1 := by decide +kernel
theorem dk_290_0 : ∀ q ∈ mi_290_0, decode mt_290.2.1 q.1 = .ok (q.2.1, q.2.2.1) ∧ q.2.2.1 = iln q.2.1 q.2.2.1 := by decide +kernel
theorem dk_291_0 : ∀ q ∈ mi_291_0, decode mt_291.2.1 q.1 = .ok (q.2.1, q.2.2.1) ∧ q.2.2.1 = iln q.2.1 q.2.2.1 := by decide +kernel
theorem dk_291_1 : ∀ q ∈ mi_291_1, decode mt_291.2.1 q.1 = .ok (q.2.1, q.2.2.1) ∧ q.2.2.1 = iln q.2.1 q.2.2.1 := by decide +kernel
theorem dk_292_0 : ∀ q ∈ mi_292_0, decode mt_292.2.1 q.1 = .ok (q.2.1, q.2.2.1) ∧ q.2.2.1 = iln q.2.1 q.2.2.1 := by decide +kernel
theorem dk_293_0 : ∀ q ∈ mi_293_0, decode mt_293.2.1 q.1 = .ok (q.2.1, q.2.2.1) ∧ q.2.2.1 = iln q.2.1 q.2.2.1 := by decide +kernel
theorem dk_293_1 : ∀ q ∈ mi_293_1, decode mt_293.2.1 q.1 = .ok (q.2.1, q.2.2.1) ∧ q.2.2.1 = iln q.2.1 q.2.2.1 := by decide +kernel
theorem dk_293_2 : ∀ q ∈ mi_293_2, decode mt_293.2.1 q.1 = .ok (q.2.1, q.2.2.1) ∧ q.2.2.1 = iln q.2.1 q.2.2.1 := by decide +kernel
theorem dk_293_3 : ∀ q ∈ mi_293_3, decode mt_293.2.1 q.1 = .ok (q.2.1, q.2.2.1) ∧ q.2.2.1 = iln q.2.1 q.2.2.1 := by decide +kernel
theorem dk_294_0 : ∀ q ∈ mi_294_0, decode mt_294.2.1 q.1 = .ok (q.2.1, q.2.2.1) ∧ q.2.2.1 = iln q.2.1 q.2.2.1 := by decide +kernel
theorem dk_295_0 : ∀ q ∈ mi_295_0, decode mt_295.2.1 q.1 = .ok (q.2.1, q.2.2.1) ∧ q.2.2.1 = iln q.2.1 q.2.2.1 := by decide +kernel
theorem dk_296_0 : ∀ q ∈ mi_296_0, decode mt_296.2.1 q.1 = .ok (q.2.1, q.2.2.1) ∧ q.2.2.1 = iln q.2.1 q.2.2.1 := by decide +kernel
theorem dk_297_0 : ∀ q ∈ mi_297_0, decode mt_297.2.1 q.1 = .ok (q.2.1, q.2.2.1) ∧ q.2.2.1 = iln q.2.1 q.2.2.1 := by decide +kernel
theorem dk_298_0 : ∀ q ∈ mi_298_0, decode mt_298.2.1 q.1 = .ok (q.2.1, q.2.2.1) ∧ q.2.2.1 = iln q.2.1 q.2.2.1 := by decide +kernel
theorem dk_299_0 : ∀ q ∈ mi_299_0, decode mt_299.2.1 q.1 = .ok (q.2.1, q.2.2.1) ∧ q.2.2.1 = iln q.2.1 q.2.2.1 := by decide +kernel
theorem dk_300_0 : ∀ q ∈ mi_300_0, decode mt_300.2.1 q.1 = .ok (q.2.1, q.2.2.1) ∧ q.2.2.1 = iln q.2.1 q.2.2.1 := by decide +kernel
theorem dk_300_1 : ∀ q ∈ mi_300_1, decode mt_300.2.1 q.1 = .ok (q.2.1, q.2.2.1) ∧ q.2.2.1 = iln q.2.1 q.2.2.1 := by decide +kernel
theorem dk_300_2 : ∀ q ∈ mi_300_2, decode mt_300.2.1 q.1 = .ok (q.2.1, q.2.2.1) ∧ q.2.2.1 = iln q.2.1 q.2.2.1 := by decide +kernel
theorem dk_301_0 : ∀ q ∈ mi_301_0, decode mt_301.2.1 q.1 = .ok (q.2.1, q.2.2.1) ∧ q.2.2.1 = iln q.2.1 q.2.2.1 := by decide +kernel
theorem dk_302_0 : ∀ q ∈ mi_302_0, decode mt_302.2.1 q.1 = .ok (q.2.1, q.2.2.1) ∧ q.2.2.1 = iln q.2.1 q.2.2.1 := by decide +kernel
theorem dk_302_1 : ∀ q ∈ mi_302_1, decode mt_302.2.1 q.1 = .ok (q.2.1, q.2.2.1) ∧ q.2.2.1 = iln q.2.1 q.2.2.1 := by decide +kernel
theorem dk_303_0 : ∀ q ∈ mi_303_0, decode mt_303.2.1 q.1 = .ok (q.2.1, q.2.2.1) ∧ q.2.2.1 = iln q.2.1 q.2.2.1 := by decide +kernel
theorem dk_303_1 : ∀ q ∈ mi_303_1, decode mt_303.2.1 q.1 = .ok (q.2.1, q.2.2.1) ∧ q.2.2.1 = iln q.2.1 q.2.2.1 := by decide +kernel
theorem dk_303_2 : ∀ q ∈ mi_303_2, decode mt_303.2.1 q.1 = .ok (q.2.1, q.2.2.1) ∧ q.2.2.1 = iln q.2.1 q.2.2.1 := by decide +kernel
theorem dk_304_0 : ∀ q ∈ mi_304_0, decode mt_304.2.1 q.1 = .ok (q.2.1, q.2.2.1) ∧ q.2.2.1 = iln q.2.1 q.2.2.1 := by decide +kernel
theorem dk_305_0 : ∀ q ∈ mi_305_0, decode mt_305.2.1 q.1 = .ok (q.2.1, q.2.2.1) ∧ q.2.2.1 = iln q.2.1 q.2.2.1 := by decide +kernel
theorem dk_306_0 : ∀ q ∈ mi_306_0, decode mt_306.2.1 q.1 = .ok (q.2.1, q.2.2.1) ∧ q.2.2.1 = iln q.2.1 q.2.2.1 := by decide +kernel
theorem dk_307_0 : ∀ q ∈ mi_307_0, decode mt_307.2.1 q.1 = .ok (q.2.1, q.2.2.1) ∧ q.2.2.1 = iln q.2.1 q.2.2.1 := by decide +kernel
theorem dk_308_0 : ∀ q ∈ mi_308_0, decode mt_308.2.1 q.1 = .ok (q.2.1, q.2.2.1) ∧ q.2.2.1 = iln q.2.1 q.2.2.1 := by decide +kernel
theorem dk_309_0 : ∀ q ∈ mi_309_0, decode mt_309.2.1 q.1 = .ok (q.2.1, q.2.2.1) ∧ q.2.2.1 = iln q.2.1 q.2.2.1 := by decide +kernel
theorem dk_310_0 : ∀ q ∈ mi_310_0, decode mt_310.2.1 q.1 = .ok (q.2.1, q.2.2.1) ∧ q.2.2.1 = iln q.2.1 q.2.2.1 := by decide +kernel
theorem dk_311_0 : ∀ q ∈ mi_311_0, decode mt_311.2.1 q.1 = .ok (q.2.1, q.2.2.1) ∧ q.2.2.1 = iln q.2.1 q.2.2.1 := by decide +kernel
theorem dk_311_1 : ∀ q ∈ mi_311_1, decode mt_311.2.1 q.1 = .ok (q.2.1, q.2.2.1) ∧ q.2.2.1 = iln q.2.1 q.2.2.1 := by decide +kernel
theorem dk_311_2 : ∀ q ∈ mi_311_2, decode mt_311.2.1 q.1 = .ok (q.2.1, q.2.2.1) ∧ q.2.2.1 = iln q.2.1 q.2.2.1 := by decide +kernel
theorem dk_311_3 : ∀ q ∈ mi_311_3, decode mt_311.2.1 q.1 = .ok (q.2.1, q.2.2.1) ∧ q.2.2.1 = iln q.2.1 q.2.2.1 := by decide +kernel
theorem dk_311_4 : ∀ q ∈ mi_311_4, decode mt_311.2.1 q.1 = .ok (q.2.1, q.2.2.1) ∧ q.2.2.1 = iln q.2.1 q.2.2.1 := by decide +kernel
theorem dk_311_5 : ∀ q ∈ mi_311_5, decode mt_311.2.1 q.1 = .ok (q.2.1, q.2.2.1) ∧ q.2.2.1 = iln q.2.1 q.2.2.1 := by decide +kernel
theorem dk_311_6 : ∀ q ∈ mi_311_6, decode mt_311.2.1 q.1 = .ok (q.2.1, q.2.2.1) ∧ q.2.2.1 = iln q.2.1 q.2.2.1 := by decide +kernel
theorem dk_311_7 : ∀ q ∈ mi_311_7, decode mt_311.2.1 q.1 = .ok (q.2.1, q.2.2.1) ∧ q.2.2.1 = iln q.2.1 q.2.2.1 := by decide +kernel
theorem dk_311_8 : ∀ q ∈ mi_311_8, decode mt_311.2.1 q.1 = .ok (q.2.1, q.2.2.1) ∧ q.2.2.1 = iln q.2.1 q.2.2.1 := by decide +kernel
theorem dk_311_9 : ∀ q ∈ mi_311_9, decode mt_311.2.1 q.1 = .ok (q.2.1, q.2.2.1) ∧ q.2.2.1 = iln q.2.1 q.2.2.1 := by decide +kernel
theorem dk_311_10 : ∀ q ∈ mi_311_10, decode mt_311.2.1 q.1 = .ok (q.2.1, q.2.2.1) ∧ q.2.2.1 = iln q.2.1 q.2.2.1 := by decide +kernel
theorem dk_311_11 : ∀ q ∈ mi_311_11, decode mt_311.2.1 q.1 = .ok (q.2.1, q.2.2.1) ∧ q.2.2.1 = iln q.2.1 q.2.2.1 := by decide +kernel
theorem dk_311_12 : ∀ q ∈ mi_311_12, decode mt_311.2.1 q.1 = .ok (q.2.1, q.2.2.1) ∧ q.2.2.1 = iln q.2.1 q.2.2.1 := by decide +kernel
theorem dk_311_13 : ∀ q ∈ mi_311_13, decode mt_311.2.1 q.1 = .ok (q.2.1, q.2.2.1) ∧ q.2.2.1 = iln q.2.1 q.2.2.1 := by decide +kernel
theorem dk_311_14 : ∀ q ∈ mi_311_14, decode mt_311.2.1 q.1 = .ok (q.2.1, q.2.2.1) ∧ q.2.2.1 = iln q.2.1 q.2.2.1 := by decide +kernel
theorem dk_311_15 : ∀ q ∈ mi_311_15, decode mt_311.2.1 q.1 = .ok (q.2.1, q.2.2.1) ∧ q.2.2.1 = iln q.2.1 q.2.2.1 := by decide +kernel
theorem dk_311_16 : ∀ q ∈ mi_311_16, decode mt_311.2.1 q.1 = .ok (q.2.1, q.2.2.1) ∧ q.2.2.1 = iln q.2.1 q.2.2.1 := by decide +kernel
theorem dk_311_17 : ∀ q ∈ mi_311_17, decode mt_311.2.1 q.1 = .ok (q.2.1, q.2.2.1) ∧ q.2.2.1 = iln q.2.1 q.2.2.1 := by decide +kernel
theorem dk_311_18 : ∀ q ∈ mi_311_18, decode mt_311.2.1 q.1 = .ok (q.2.1, q.2.2.1) ∧ q.2.2.1 = iln q.2.1 q.2.2.1 := by decide +kernel
theorem dk_311_19 : ∀ q ∈ mi_311_19, decode mt_311.2.1 q.1 = .ok (q.2.1, q.2.2.1) ∧ q.2.2.1 = iln q.2.1 q.2.2.1 := by decide +kernel
theorem dk_311_20 : ∀ q ∈ mi_311_20, decode mt_311.2.1 q.1 = .ok (q.2.1, q.2.2.1) ∧ q.2.2.1 = iln q.2.1 q.2.2.1 := by decide +kernel
theorem dk_311_21 : ∀ q ∈ mi_311_21, decode mt_311.2.1 q.1 = .ok (q.2.1, q.2.2.1) ∧ q.2.2.1 = iln q.2.1 q.2.2.1 := by decide +kernel
theorem dk_311_22 : ∀ q ∈ mi_311_22, decode mt_311.2.1 q.1 = .ok (q.2.1, q.2.2.1) ∧ q.2.2.1 = iln q.2.1 q.2.2.1 := by decide +kernel
theorem dk_311_23 : ∀ q ∈ mi_311_23, decode mt_311.2.1 q.1 = .ok (q.2.1, q.2.2.1) ∧ q.2.2.1 = iln q.2.1 q.2.2.1 := by decide +kernel
theorem dk_311_24 : ∀ q ∈ mi_311_24, decode mt_311.2.1 q.1 = .ok (q.2.1, q.2.2.1) ∧ q.2.2.1 = iln q.2.1 q.2.2.1 := by decide +kernel
theorem dk_311_25 : ∀ q ∈ mi_311_25, decode mt_311.2.1 q.1 = .ok (q.2.1, q.2.2.1) ∧ q.2.2.1 = iln q.2.1 q.2.2.1 := by decide +kernel
theorem dk_311_26 : ∀ q ∈ mi_311_26, decode mt_311.2.1 q.1 = .ok (q.2.1, q.2.2.1) ∧ q.2.2.1 = iln q.2.1 q.2.2.1 := by decide +kernel
theorem dk_311_27 : ∀ q ∈ mi_311_27, decode mt_311.2.1 q.1 = .ok (q.2.1, q.2.2.1) ∧ q.2.2.1 = iln q.2.1 q.2.2.1 := by decide +kernel
theorem dk_311_28 : ∀ q ∈ mi_311_28, decode mt_311.2.1 q.1 = .ok (q.2.1, q.2.2.1) ∧ q.2.2.1 = iln q.2.1 q.2.2.1 := by decide +kernel
theorem dk_311_29 : ∀ q ∈ mi_311_29, decode mt_311.2.1 q.1 = .ok (q.2.1, q.2.2.1) ∧ q.2.2.1 = iln q.2.1 q.2.2.1 := by decide +kernel
theorem dk_311_30 : ∀ q ∈ mi_311_30, decode mt_311.2.1 q.1 = .ok (q.2.1, q.2.2.1) ∧ q.2.2.1 = iln q.2.1 q.2.2.1 := by decide +kernel
theorem dk_311_31 : ∀ q ∈ mi_311_31, decode mt_311.2.1 q.1 = .ok (q.2.1, q.2.2.1) ∧ q.2.2.1 = iln q.2.1 q.2.2.1 := by decide +kernel
theorem dk_311_32 : ∀ q ∈ mi_311_32, decode mt_311.2.1 q.1 = .ok (q.2.1, q.2.2.1) ∧ q.2.2.1 = iln q.2.1 q.2.2.1 := by decide +kernel
theorem dk_311_33 : ∀ q ∈ mi_311_33, decode mt_311.2.1 q.1 = .ok (q.2.1, q.2.2.1) ∧ q.2.2.1 = iln q.2.1 q.2.2.1 := by decide +kernel
theorem dk_311_34 : ∀ q ∈ mi_311_34, decode mt_311.2.1 q.1 = .ok (q.2.1, q.2.2.1) ∧ q.2.2.1 = iln q.2.1 q.2.2.1 := by decide +kernel
theorem dk_311_35 : ∀ q ∈ mi_311_35, decode mt_311.2.1 q.1 = .ok (q.2.1, q.2.2.1) ∧ q.2.2.1 = iln q.2.1 q.2.2.1 := by decide +kernel
theorem dk_311_36 : ∀ q ∈ mi_311_36, decode mt_311.2.1 q.1 = .ok (q.2.1, q.2.2.1) ∧ q.2.2.1 = iln q.2.1 q.2.2.1 := by decide +kernel
theorem dk_311_37 : ∀ q ∈ mi_311_37, decode mt_311.2.1 q.1 = .ok (q.2.1, q.2.2.1) ∧ q.2.2.1 = iln q.2.1 q.2.2.1 := by decide +kernel
theorem dk_311_38 : ∀ q ∈ mi_311_38, decode mt_311.2.1 q.1 = .ok (q.2.1, q.2.2.1) ∧ q.2.2.1 = iln q.2.1 q.2.2.1 := by decide +kernel
theorem dk_311_39 : ∀ q ∈ mi_311_39, decode mt_311.2.1 q.1 = .ok (q.2.1, q.2.2.1) ∧ q.2.2.1 = iln q.2.1 q.2.2.1 := by decide +kernel
theorem dk_311_40 : ∀ q ∈ mi_311_40, decode mt_311.2.1 q.1 = .ok (q.2.1, q.2.2.1) ∧ q.2.2.1 = iln q.2.1 q.2.2.1 := by decide +kernel
theorem dk_311_41 : ∀ q ∈ mi_311_41, decode mt_311.2.1 q.1 = .ok (q.2.1, q.2.2.1) ∧ q.2.2.1 = iln q.2.1 q.2.2.1 := by decide +kernel
theorem dk_311_42 : ∀ q ∈ mi_311_42, decode mt_311.2.1 q.1 = .ok (q.2.1, q.2.2.1) ∧ q.2.2.1 = iln q.2.1 q.2.2.1 := by decide +kernel
theorem dk_311_43 : ∀ q ∈ mi_311_43, decode mt_311.2.1 q.1 = .ok (q.2.1, q.2.2.1) ∧ q.2.2.1 = iln q.2.1 q.2.2.1 := by decide +kernel
