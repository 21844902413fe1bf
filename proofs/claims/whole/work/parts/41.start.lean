/-! SOUNDNESS: the law's start -/
theorem tq_1 {w : Cond} (h : w ∈ tables_1_1) : w ∈ lw_tbl := List.mem_append_right _ (List.mem_append_left _ h)
theorem tq_2 {w : Cond} (h : w ∈ tables_1_2) : w ∈ lw_tbl := List.mem_append_right _ (List.mem_append_right _ (List.mem_append_left _ h))
theorem tq_3 {w : Cond} (h : w ∈ tables_1_3) : w ∈ lw_tbl := List.mem_append_right _ (List.mem_append_right _ (List.mem_append_right _ (List.mem_append_left _ h)))
theorem tq_4 {w : Cond} (h : w ∈ tables_1_4) : w ∈ lw_tbl := List.mem_append_right _ (List.mem_append_right _ (List.mem_append_right _ (List.mem_append_right _ (List.mem_append_left _ h))))
theorem tq_5 {w : Cond} (h : w ∈ tables_1_5) : w ∈ lw_tbl := List.mem_append_right _ (List.mem_append_right _ (List.mem_append_right _ (List.mem_append_right _ (List.mem_append_right _ (List.mem_append_left _ h)))))
theorem tq_6 {w : Cond} (h : w ∈ tables_1_6) : w ∈ lw_tbl := List.mem_append_right _ (List.mem_append_right _ (List.mem_append_right _ (List.mem_append_right _ (List.mem_append_right _ (List.mem_append_right _ (List.mem_append_left _ h))))))
theorem tq_7 {w : Cond} (h : w ∈ tables_1_7) : w ∈ lw_tbl := List.mem_append_right _ (List.mem_append_right _ (List.mem_append_right _ (List.mem_append_right _ (List.mem_append_right _ (List.mem_append_right _ (List.mem_append_right _ (List.mem_append_left _ h)))))))
theorem tq_8 {w : Cond} (h : w ∈ tables_1_8) : w ∈ lw_tbl := List.mem_append_right _ (List.mem_append_right _ (List.mem_append_right _ (List.mem_append_right _ (List.mem_append_right _ (List.mem_append_right _ (List.mem_append_right _ (List.mem_append_right _ (List.mem_append_left _ h))))))))
theorem tq_9 {w : Cond} (h : w ∈ tables_1_9) : w ∈ lw_tbl := List.mem_append_right _ (List.mem_append_right _ (List.mem_append_right _ (List.mem_append_right _ (List.mem_append_right _ (List.mem_append_right _ (List.mem_append_right _ (List.mem_append_right _ (List.mem_append_right _ (h)))))))))
theorem lay_2 : ∀ k, k < 6 → u_lay (clC 2).1 (clC 2).2.1 k ∈ lw_tbl
  | 0, _ => tq_4 (List.mem_of_getElem? (i := 125) (by decide +kernel))
  | 1, _ => tq_4 (List.mem_of_getElem? (i := 126) (by decide +kernel))
  | 2, _ => tq_4 (List.mem_of_getElem? (i := 127) (by decide +kernel))
  | 3, _ => tq_4 (List.mem_of_getElem? (i := 128) (by decide +kernel))
  | 4, _ => tq_4 (List.mem_of_getElem? (i := 129) (by decide +kernel))
  | 5, _ => tq_4 (List.mem_of_getElem? (i := 130) (by decide +kernel))
  | q + 6, h => absurd h (by omega)
theorem lay_3 : ∀ k, k < 6 → u_lay (clC 3).1 (clC 3).2.1 k ∈ lw_tbl
  | 0, _ => tq_6 (List.mem_of_getElem? (i := 186) (by decide +kernel))
  | 1, _ => tq_6 (List.mem_of_getElem? (i := 187) (by decide +kernel))
  | 2, _ => tq_6 (List.mem_of_getElem? (i := 188) (by decide +kernel))
  | 3, _ => tq_6 (List.mem_of_getElem? (i := 189) (by decide +kernel))
  | 4, _ => tq_6 (List.mem_of_getElem? (i := 190) (by decide +kernel))
  | 5, _ => tq_6 (List.mem_of_getElem? (i := 191) (by decide +kernel))
  | q + 6, h => absurd h (by omega)
theorem ins13 : ∀ c, c < 13 → ∃ n, Cond.instantiable (clC c).1 n ∈ lw_tbl
  | 0, _ => ⟨4, tq_4 (List.mem_of_getElem? (i := 136) (by decide +kernel))⟩
  | 1, _ => ⟨4, tq_2 (List.mem_of_getElem? (i := 28) (by decide +kernel))⟩
  | 2, _ => ⟨6, tq_4 (List.mem_of_getElem? (i := 118) (by decide +kernel))⟩
  | 3, _ => ⟨6, tq_5 (List.mem_of_getElem? (i := 216) (by decide +kernel))⟩
  | 4, _ => ⟨12, tq_1 (List.mem_of_getElem? (i := 43) (by decide +kernel))⟩
  | 5, _ => ⟨3, tq_1 (List.mem_of_getElem? (i := 171) (by decide +kernel))⟩
  | 6, _ => ⟨5, tq_1 (List.mem_of_getElem? (i := 191) (by decide +kernel))⟩
  | 7, _ => ⟨5, tq_1 (List.mem_of_getElem? (i := 90) (by decide +kernel))⟩
  | 8, _ => ⟨7, tq_1 (List.mem_of_getElem? (i := 218) (by decide +kernel))⟩
  | 9, _ => ⟨3, tq_2 (List.mem_of_getElem? (i := 10) (by decide +kernel))⟩
  | 10, _ => ⟨6, tq_1 (List.mem_of_getElem? (i := 50) (by decide +kernel))⟩
  | 11, _ => ⟨7, tq_1 (List.mem_of_getElem? (i := 35) (by decide +kernel))⟩
  | 12, _ => ⟨17, tq_7 (List.mem_of_getElem? (i := 50) (by decide +kernel))⟩
  | q + 13, h => absurd h (by omega)
theorem lay_tbl {c N : Nat} (h : ∀ k, k < N → u_lay (clC c).1 (clC c).2.1 k ∈ lw_tbl) : ∀ w ∈ u_ws (clC c).1 (clC c).2.1 N, w ∈ lw_tbl := fun w hw => by
  obtain ⟨k, hk, rfl⟩ := List.mem_map.mp hw
  exact h k (List.mem_range.mp hk)
theorem gb_tbl {s : State} {args : Array Value} (hts : ∀ w ∈ lw_tbl, w.before args s = true) : ∀ w ∈ GB, w.before args s = true := fun w hw => GP.of hts w hw args
theorem kn_all {s : State} {args : Array Value} (hts : ∀ w ∈ lw_tbl, w.before args s = true) : ∃ D : va_G, ∀ (c : Nat) (q : vw_C), vwCl[c]? = some q → u_Kn s q.1 q.2.1 q.2.2 (D.1 c) (D.2 c) := by
  have h : ∀ c : Nat, ∃ (cC : ClassId) (iS : Nat → Nat), ∀ q : vw_C, vwCl[c]? = some q → u_Kn s q.1 q.2.1 q.2.2 cC iS := by
    intro c
    by_cases hc : c < 13
    · obtain ⟨n, hn⟩ := ins13 c hc
      by_cases h0 : 0 < nfl c
      · obtain ⟨e1, e2, -, -, e5⟩ := cl_ok c h0
        obtain ⟨cC, iS, hK⟩ := u_known (C := (clC c).1) (T := (clC c).2.1) (N := nfl c) (gb_tbl hts) e5 (hts _ hn)
        refine ⟨cC, iS, fun q hq => ?_⟩
        rw [e1] at hq
        cases hq
        rw [e2]
        exact hK
      · have h23 : c = 2 ∨ c = 3 := by
          rcases (by omega : c = 0 ∨ c = 1 ∨ c = 2 ∨ c = 3 ∨ c = 4 ∨ c = 5 ∨ c = 6 ∨ c = 7 ∨ c = 8 ∨ c = 9 ∨ c = 10 ∨ c = 11 ∨ c = 12) with rfl | rfl | rfl | rfl | rfl | rfl | rfl | rfl | rfl | rfl | rfl | rfl | rfl <;> first | exact Or.inl rfl | exact Or.inr rfl | exact absurd (by decide) h0
        rcases h23 with rfl | rfl
        · obtain ⟨cC, iS, hK⟩ := u_known (C := (clC 2).1) (T := (clC 2).2.1) (N := 6) hts (lay_tbl lay_2) (hts _ hn)
          exact ⟨cC, iS, fun q hq => by cases hq; exact hK⟩
        · obtain ⟨cC, iS, hK⟩ := u_known (C := (clC 3).1) (T := (clC 3).2.1) (N := 6) hts (lay_tbl lay_3) (hts _ hn)
          exact ⟨cC, iS, fun q hq => by cases hq; exact hK⟩
    · exact ⟨0, fun _ => 0, fun q hq => by
        rw [List.getElem?_eq_none (by show 13 ≤ c; omega)] at hq
        cases hq⟩
  exact ⟨(fun c => (h c).choose, fun c => (h c).choose_spec.choose), fun c q hq => (h c).choose_spec.choose_spec q hq⟩
theorem ar_p {s : State} {args : Array Value} {ty : FieldType} (h : (Cond.arrayClass ty).before args s = true) (ht : ty = .int ∨ ty = .long ∨ ty = .byte ∨ ty = .boolean ∨ ty = .double) : ∃ cA : ClassId, ArrOfT s cA ty ∧ va_RA s cA ty := by
  obtain ⟨cA, kA, comp, h1, h2, h3⟩ := Cond.arrayClass_spec h
  refine ⟨cA, fun n z => ⟨(fun k h => by cases h), kA, h2, comp, h3⟩, ?_⟩
  rcases ht with rfl | rfl | rfl | rfl | rfl <;> exact h1
theorem ar_o {s : State} {args : Array Value} {C : String} (h : (Cond.arrayOver (.object C)).before args s = true) : ∃ cA : ClassId, ArrOfT s cA (.object C) ∧ va_RA s cA (.object C) := by
  obtain ⟨comp, cA, kA, h1, -, h2, h3, h4⟩ := Cond.arrayOver_spec h
  exact ⟨cA, fun n z => ⟨(fun k h => by cases h), kA, h2, comp, h3⟩, kA, comp, h2, h3, h1, h4⟩
noncomputable def tyK (s : State) (ty : FieldType) : ClassId := Classical.epsilon (fun cA => ArrOfT s cA ty ∧ va_RA s cA ty)
theorem tyK_ok {s : State} {ty : FieldType} (h : ∃ cA : ClassId, ArrOfT s cA ty ∧ va_RA s cA ty) : ArrOfT s (tyK s ty) ty ∧ va_RA s (tyK s ty) ty := Classical.epsilon_spec h
theorem tw_int : Cond.arrayClass .int ∈ lw_tbl := tq_1 (List.mem_of_getElem? (i := 121) (by decide +kernel))
theorem tw_long : Cond.arrayClass .long ∈ lw_tbl := tq_2 (List.mem_of_getElem? (i := 26) (by decide +kernel))
theorem tw_byte : Cond.arrayClass .byte ∈ lw_tbl := tq_2 (List.mem_of_getElem? (i := 59) (by decide +kernel))
theorem tw_boolean : Cond.arrayClass .boolean ∈ lw_tbl := tq_2 (List.mem_of_getElem? (i := 8) (by decide +kernel))
theorem tw_double : Cond.arrayClass .double ∈ lw_tbl := tq_9 (List.mem_of_getElem? (i := 19) (by decide +kernel))
theorem tw_St : Cond.arrayOver kSt ∈ lw_tbl := tq_1 (List.mem_of_getElem? (i := 49) (by decide +kernel))
theorem tw_Bk : Cond.arrayOver kBk ∈ lw_tbl := tq_1 (List.mem_of_getElem? (i := 177) (by decide +kernel))
abbrev nwL : List Cond := flatC (Jvm.Cond.and given_1 narrow_1)
theorem nw_at {i : Nat} {w : Cond} (h : nwL[i]? = some w) : w ∈ nwL := List.mem_of_getElem? h
theorem nq_cs : (Jvm.Cond.eq (Jvm.Term.static "java/lang/String" "COMPACT_STRINGS" "Z") (Jvm.Term.int (1 : Int32))) ∈ nwL := nw_at (i := 4) (by decide +kernel)
theorem nq_us : (Jvm.Cond.isRef (Jvm.Term.static "java/lang/Throwable" "UNASSIGNED_STACK" "[Ljava/lang/StackTraceElement;")) ∈ nwL := nw_at (i := 5) (by decide +kernel)
theorem nq_ss : (Jvm.Cond.isRef (Jvm.Term.static "java/lang/Throwable" "SUPPRESSED_SENTINEL" "Ljava/util/List;")) ∈ nwL := nw_at (i := 6) (by decide +kernel)
theorem nq_fm : (Jvm.Cond.isRef (Jvm.Term.static "jdk/internal/util/Preconditions" "SIOOBE_FORMATTER" "Ljava/util/function/BiFunction;")) ∈ nwL := nw_at (i := 7) (by decide +kernel)
theorem nq_aT : (Jvm.Cond.arrayOf (Jvm.Term.static "java/lang/Integer" "DigitTens" "[B") Jvm.ClassFile.FieldType.byte) ∈ nwL := nw_at (i := 115) (by decide +kernel)
theorem nq_lT : (Jvm.Cond.eq (Jvm.Term.length (Jvm.Term.static "java/lang/Integer" "DigitTens" "[B")) (Jvm.Term.int (100 : Int32))) ∈ nwL := nw_at (i := 116) (by decide +kernel)
def dgT : List Nat := [117, 118, 119, 120, 121, 122, 123, 124, 125, 126, 127, 128, 129, 130, 131, 132, 133, 134, 135, 136, 137, 138, 139, 140, 141, 142, 143, 144, 145, 146, 147, 148, 149, 150, 151, 152, 153, 154, 155, 156, 157, 158, 159, 160, 161, 162, 163, 164, 165, 166, 167, 168, 169, 170, 171, 172, 173, 174, 175, 176, 177, 178, 179, 180, 181, 182, 183, 184, 185, 186, 187, 188, 189, 190, 191, 192, 193, 194, 195, 196, 197, 198, 199, 200, 201, 202, 203, 204, 205, 206, 207, 208, 209, 210, 211, 212, 213, 214, 215, 216]
theorem nq_eT : ∀ j, j < 100 → Cond.eq (.elem (Jvm.Term.static "java/lang/Integer" "DigitTens" "[B") (.int (Int32.ofNat j))) (.int (roB (45, 0, 0) j)) ∈ nwL := fun j hj => nw_at (i := dgT.getD j 0) ((by decide +kernel : ∀ j, j < 100 → nwL[dgT.getD j 0]? = some (Cond.eq (.elem (Jvm.Term.static "java/lang/Integer" "DigitTens" "[B") (.int (Int32.ofNat j))) (.int (roB (45, 0, 0) j)))) j hj)
theorem nq_aO : (Jvm.Cond.arrayOf (Jvm.Term.static "java/lang/Integer" "DigitOnes" "[B") Jvm.ClassFile.FieldType.byte) ∈ nwL := nw_at (i := 12) (by decide +kernel)
theorem nq_lO : (Jvm.Cond.eq (Jvm.Term.length (Jvm.Term.static "java/lang/Integer" "DigitOnes" "[B")) (Jvm.Term.int (100 : Int32))) ∈ nwL := nw_at (i := 13) (by decide +kernel)
def dgO : List Nat := [14, 15, 16, 17, 18, 19, 20, 21, 22, 23, 24, 25, 26, 27, 28, 29, 30, 31, 32, 33, 34, 35, 36, 37, 38, 39, 40, 41, 42, 43, 44, 45, 46, 47, 48, 49, 50, 51, 52, 53, 54, 55, 56, 57, 58, 59, 60, 61, 62, 63, 64, 65, 66, 67, 68, 69, 70, 71, 72, 73, 74, 75, 76, 77, 78, 79, 80, 81, 82, 83, 84, 85, 86, 87, 88, 89, 90, 91, 92, 93, 94, 95, 96, 97, 98, 99, 100, 101, 102, 103, 104, 105, 106, 107, 108, 109, 110, 111, 112, 113]
theorem nq_eO : ∀ j, j < 100 → Cond.eq (.elem (Jvm.Term.static "java/lang/Integer" "DigitOnes" "[B") (.int (Int32.ofNat j))) (.int (roB (46, 0, 0) j)) ∈ nwL := fun j hj => nw_at (i := dgO.getD j 0) ((by decide +kernel : ∀ j, j < 100 → nwL[dgO.getD j 0]? = some (Cond.eq (.elem (Jvm.Term.static "java/lang/Integer" "DigitOnes" "[B") (.int (Int32.ofNat j))) (.int (roB (46, 0, 0) j)))) j hj)
theorem nq_s0x : (Jvm.Cond.exactly (Jvm.Term.string "FrequencyOffice" (312 : Nat)) "java/lang/String") ∈ nwL := nw_at (i := 973) (by decide +kernel)
theorem nq_s0c : (Jvm.Cond.eq (Jvm.Term.field (Jvm.Term.string "FrequencyOffice" (312 : Nat)) "java/lang/String" "coder" "B") (Jvm.Term.int (0 : Int32))) ∈ nwL := nw_at (i := 974) (by decide +kernel)
theorem nq_s0a : (Jvm.Cond.arrayOf (Jvm.Term.field (Jvm.Term.string "FrequencyOffice" (312 : Nat)) "java/lang/String" "value" "[B") Jvm.ClassFile.FieldType.byte) ∈ nwL := nw_at (i := 975) (by decide +kernel)
theorem nq_s0l : (Jvm.Cond.eq (Jvm.Term.length (Jvm.Term.field (Jvm.Term.string "FrequencyOffice" (312 : Nat)) "java/lang/String" "value" "[B")) (Jvm.Term.int (2 : Int32))) ∈ nwL := nw_at (i := 976) (by decide +kernel)
theorem nq_s00 : (Jvm.Cond.eq (Jvm.Term.elem (Jvm.Term.field (Jvm.Term.string "FrequencyOffice" (312 : Nat)) "java/lang/String" "value" "[B") (Jvm.Term.int (0 : Int32))) (Jvm.Term.int (32 : Int32))) ∈ nwL := nw_at (i := 977) (by decide +kernel)
theorem nq_s01 : (Jvm.Cond.eq (Jvm.Term.elem (Jvm.Term.field (Jvm.Term.string "FrequencyOffice" (312 : Nat)) "java/lang/String" "value" "[B") (Jvm.Term.int (1 : Int32))) (Jvm.Term.int (99 : Int32))) ∈ nwL := nw_at (i := 978) (by decide +kernel)
theorem nq_s1x : (Jvm.Cond.exactly (Jvm.Term.string "FrequencyOffice" (317 : Nat)) "java/lang/String") ∈ nwL := nw_at (i := 979) (by decide +kernel)
theorem nq_s1c : (Jvm.Cond.eq (Jvm.Term.field (Jvm.Term.string "FrequencyOffice" (317 : Nat)) "java/lang/String" "coder" "B") (Jvm.Term.int (0 : Int32))) ∈ nwL := nw_at (i := 980) (by decide +kernel)
theorem nq_s1a : (Jvm.Cond.arrayOf (Jvm.Term.field (Jvm.Term.string "FrequencyOffice" (317 : Nat)) "java/lang/String" "value" "[B") Jvm.ClassFile.FieldType.byte) ∈ nwL := nw_at (i := 981) (by decide +kernel)
theorem nq_s1l : (Jvm.Cond.eq (Jvm.Term.length (Jvm.Term.field (Jvm.Term.string "FrequencyOffice" (317 : Nat)) "java/lang/String" "value" "[B")) (Jvm.Term.int (2 : Int32))) ∈ nwL := nw_at (i := 982) (by decide +kernel)
theorem nq_s10 : (Jvm.Cond.eq (Jvm.Term.elem (Jvm.Term.field (Jvm.Term.string "FrequencyOffice" (317 : Nat)) "java/lang/String" "value" "[B") (Jvm.Term.int (0 : Int32))) (Jvm.Term.int (32 : Int32))) ∈ nwL := nw_at (i := 983) (by decide +kernel)
theorem nq_s11 : (Jvm.Cond.eq (Jvm.Term.elem (Jvm.Term.field (Jvm.Term.string "FrequencyOffice" (317 : Nat)) "java/lang/String" "value" "[B") (Jvm.Term.int (1 : Int32))) (Jvm.Term.int (84 : Int32))) ∈ nwL := nw_at (i := 984) (by decide +kernel)
theorem nq_s2x : (Jvm.Cond.exactly (Jvm.Term.string "FrequencyOffice" (319 : Nat)) "java/lang/String") ∈ nwL := nw_at (i := 985) (by decide +kernel)
theorem nq_s2c : (Jvm.Cond.eq (Jvm.Term.field (Jvm.Term.string "FrequencyOffice" (319 : Nat)) "java/lang/String" "coder" "B") (Jvm.Term.int (0 : Int32))) ∈ nwL := nw_at (i := 986) (by decide +kernel)
theorem nq_s2a : (Jvm.Cond.arrayOf (Jvm.Term.field (Jvm.Term.string "FrequencyOffice" (319 : Nat)) "java/lang/String" "value" "[B") Jvm.ClassFile.FieldType.byte) ∈ nwL := nw_at (i := 987) (by decide +kernel)
theorem nq_s2l : (Jvm.Cond.eq (Jvm.Term.length (Jvm.Term.field (Jvm.Term.string "FrequencyOffice" (319 : Nat)) "java/lang/String" "value" "[B")) (Jvm.Term.int (2 : Int32))) ∈ nwL := nw_at (i := 988) (by decide +kernel)
theorem nq_s20 : (Jvm.Cond.eq (Jvm.Term.elem (Jvm.Term.field (Jvm.Term.string "FrequencyOffice" (319 : Nat)) "java/lang/String" "value" "[B") (Jvm.Term.int (0 : Int32))) (Jvm.Term.int (32 : Int32))) ∈ nwL := nw_at (i := 989) (by decide +kernel)
theorem nq_s21 : (Jvm.Cond.eq (Jvm.Term.elem (Jvm.Term.field (Jvm.Term.string "FrequencyOffice" (319 : Nat)) "java/lang/String" "value" "[B") (Jvm.Term.int (1 : Int32))) (Jvm.Term.int (76 : Int32))) ∈ nwL := nw_at (i := 990) (by decide +kernel)
def ncT : List (List Nat) := [[0, 246, 264, 282, 300, 316], [228, 0, 265, 283, 301, 317], [229, 247, 0, 284, 302, 318], [230, 248, 266, 0, 303, 319], [232, 250, 268, 286, 0, 321], [233, 251, 269, 287, 304, 0]]
theorem nq_nc : ∀ i, i < 6 → ∀ j, j < 6 → i ≠ j → Cond.not (.castable (exN i) (exN j)) ∈ nwL := fun i hi j hj hij => nw_at (i := (ncT.getD i []).getD j 0) ((by decide +kernel : ∀ i, i < 6 → ∀ j, j < 6 → i ≠ j → nwL[(ncT.getD i []).getD j 0]? = some (Cond.not (.castable (exN i) (exN j)))) i hi j hj hij)
def exP : List Nat := [392, 466, 519, 573, 607, 684, 817, 991, 1021, 1046, 361, 546, 412, 630, 845, 718, 750, 784, 493, 659, 446]
theorem nq_ex : ∀ i, i < 21 → ∀ q, exS[i]? = some q → Cond.exactly (.string "FrequencyOffice" q.1) "java/lang/String" ∈ nwL := fun i hi q hq => nw_at (i := exP.getD i 0) (by have h := (by decide +kernel : ∀ i, i < 21 → nwL[exP.getD i 0]? = (exS[i]?).map (fun q => Cond.exactly (.string "FrequencyOffice" q.1) "java/lang/String")) i hi; rw [hq] at h; exact h)
theorem sr_ex : ∀ q ∈ exS, Cond.stringRef "FrequencyOffice" q.1 q.2 ∈ lw_tbl := List.forall_mem_cons.mpr ⟨tq_3 (List.mem_of_getElem? (i := 138) (by decide +kernel)), List.forall_mem_cons.mpr ⟨tq_4 (List.mem_of_getElem? (i := 52) (by decide +kernel)), List.forall_mem_cons.mpr ⟨tq_4 (List.mem_of_getElem? (i := 81) (by decide +kernel)), List.forall_mem_cons.mpr ⟨tq_4 (List.mem_of_getElem? (i := 93) (by decide +kernel)), List.forall_mem_cons.mpr ⟨tq_4 (List.mem_of_getElem? (i := 109) (by decide +kernel)), List.forall_mem_cons.mpr ⟨tq_5 (List.mem_of_getElem? (i := 61) (by decide +kernel)), List.forall_mem_cons.mpr ⟨tq_5 (List.mem_of_getElem? (i := 173) (by decide +kernel)), List.forall_mem_cons.mpr ⟨tq_7 (List.mem_of_getElem? (i := 14) (by decide +kernel)), List.forall_mem_cons.mpr ⟨tq_7 (List.mem_of_getElem? (i := 32) (by decide +kernel)), List.forall_mem_cons.mpr ⟨tq_7 (List.mem_of_getElem? (i := 44) (by decide +kernel)), List.forall_mem_cons.mpr ⟨tq_3 (List.mem_of_getElem? (i := 103) (by decide +kernel)), List.forall_mem_cons.mpr ⟨tq_4 (List.mem_of_getElem? (i := 92) (by decide +kernel)), List.forall_mem_cons.mpr ⟨tq_3 (List.mem_of_getElem? (i := 170) (by decide +kernel)), List.forall_mem_cons.mpr ⟨tq_4 (List.mem_of_getElem? (i := 158) (by decide +kernel)), List.forall_mem_cons.mpr ⟨tq_5 (List.mem_of_getElem? (i := 185) (by decide +kernel)), List.forall_mem_cons.mpr ⟨tq_5 (List.mem_of_getElem? (i := 120) (by decide +kernel)), List.forall_mem_cons.mpr ⟨tq_5 (List.mem_of_getElem? (i := 156) (by decide +kernel)), List.forall_mem_cons.mpr ⟨tq_5 (List.mem_of_getElem? (i := 157) (by decide +kernel)), List.forall_mem_cons.mpr ⟨tq_4 (List.mem_of_getElem? (i := 74) (by decide +kernel)), List.forall_mem_cons.mpr ⟨tq_4 (List.mem_of_getElem? (i := 223) (by decide +kernel)), List.forall_mem_cons.mpr ⟨tq_4 (List.mem_of_getElem? (i := 3) (by decide +kernel)), fun w h => absurd h List.not_mem_nil⟩⟩⟩⟩⟩⟩⟩⟩⟩⟩⟩⟩⟩⟩⟩⟩⟩⟩⟩⟩⟩
theorem sr_0 : Cond.stringRef "FrequencyOffice" 312 " c" ∈ lw_tbl := tq_7 (List.mem_of_getElem? (i := 2) (by decide +kernel))
theorem sr_1 : Cond.stringRef "FrequencyOffice" 317 " T" ∈ lw_tbl := tq_7 (List.mem_of_getElem? (i := 4) (by decide +kernel))
theorem sr_2 : Cond.stringRef "FrequencyOffice" 319 " L" ∈ lw_tbl := tq_7 (List.mem_of_getElem? (i := 5) (by decide +kernel))
theorem ls_cs : Cond.laysStatic "java/lang/String" "COMPACT_STRINGS" "Z" ∈ lw_tbl := tq_2 (List.mem_of_getElem? (i := 37) (by decide +kernel))
theorem ls_dt : Cond.laysStatic "java/lang/Integer" "DigitTens" "[B" ∈ lw_tbl := tq_6 (List.mem_of_getElem? (i := 113) (by decide +kernel))
theorem ls_do : Cond.laysStatic "java/lang/Integer" "DigitOnes" "[B" ∈ lw_tbl := tq_6 (List.mem_of_getElem? (i := 111) (by decide +kernel))
theorem ls_fm : Cond.laysStatic "jdk/internal/util/Preconditions" "SIOOBE_FORMATTER" "Ljava/util/function/BiFunction;" ∈ lw_tbl := tq_6 (List.mem_of_getElem? (i := 41) (by decide +kernel))
theorem ls_us : Cond.laysStatic "java/lang/Throwable" "UNASSIGNED_STACK" Bundle.steD ∈ lw_tbl := tq_3 (List.mem_of_getElem? (i := 84) (by decide +kernel))
theorem ls_ss : Cond.laysStatic "java/lang/Throwable" "SUPPRESSED_SENTINEL" Bundle.listD ∈ lw_tbl := tq_3 (List.mem_of_getElem? (i := 86) (by decide +kernel))
theorem in_S : Cond.initialized "java/lang/String" ∈ lw_tbl := tq_1 (List.mem_of_getElem? (i := 11) (by decide +kernel))
theorem in_I : Cond.initialized "java/lang/Integer" ∈ lw_tbl := tq_1 (List.mem_of_getElem? (i := 20) (by decide +kernel))
theorem in_P : Cond.initialized "jdk/internal/util/Preconditions" ∈ lw_tbl := tq_1 (List.mem_of_getElem? (i := 24) (by decide +kernel))
theorem in_T : Cond.initialized "java/lang/Throwable" ∈ lw_tbl := tq_1 (List.mem_of_getElem? (i := 15) (by decide +kernel))
theorem str_1 {s : State} {A : Nat → Prop} {H : Heap} {a v v' : Nat} {f f' : Nat → Value} (h1 : va_OF "java/lang/String" "value" "[B" (.ref v) a A s H) (t1 : va_T .byte v 2 f A s H) (h2 : va_OF "java/lang/String" "value" "[B" (.ref v') a A s H) (t2 : va_T .byte v' 2 f' A s H) : f 1 = f' 1 := by
  obtain ⟨cf, k, i, fd, cell, a1, a2, a3, a4, a5, -⟩ := h1
  obtain ⟨cf', k', i', fd', cell', b1, b2, b3, b4, b5, -⟩ := h2
  cases a1.symm.trans b1
  cases a3.symm.trans b3
  cases a5.symm.trans b5
  obtain ⟨c1, d1, -, -, -, -, d6, -⟩ := t1
  obtain ⟨c2, e1, -, -, -, -, e6, -⟩ := t2
  cases d1.symm.trans e1
  exact Option.some.inj ((d6 1 (by decide)).symm.trans (e6 1 (by decide)))
/-- a String constant at the start -/
theorem str_0 {s : State} {args : Array Value} {k : Nat} {z : Int32} {A : Nat → Prop} (hA : ∀ a : Nat, a < s.heap.size → ¬ A a) (h1 : (Cond.exactly (.string "FrequencyOffice" k) "java/lang/String").before args s = true) (h2 : (Cond.eq (.field (.string "FrequencyOffice" k) "java/lang/String" "coder" "B") (.int 0)).before args s = true)
    (h3 : (Cond.arrayOf (.field (.string "FrequencyOffice" k) "java/lang/String" "value" "[B") .byte).before args s = true) (h4 : (Cond.eq (.length (.field (.string "FrequencyOffice" k) "java/lang/String" "value" "[B")) (.int 2)).before args s = true)
    (h5 : (Cond.eq (.elem (.field (.string "FrequencyOffice" k) "java/lang/String" "value" "[B") (.int 0)) (.int 32)).before args s = true) (h6 : (Cond.eq (.elem (.field (.string "FrequencyOffice" k) "java/lang/String" "value" "[B") (.int 1)) (.int z)).before args s = true) :
    ∃ aK aV : Nat, (va_O "java/lang/String" aK A s s.heap ∧ va_OF "java/lang/String" "coder" "B" (.int 0) aK A s s.heap ∧ va_OF "java/lang/String" "value" "[B" (.ref aV) aK A s s.heap ∧ va_T .byte aV 2 (fun j => .int (([32, z] : List Int32).getD j 0)) A s s.heap) ∧ (Term.string "FrequencyOffice" k).eval args s none [] s = some (.ref aK) := by
  obtain ⟨adK, adV, hS, hev⟩ := vk_Sof (N := 1) (tm := fun _ => .string "FrequencyOffice" k) (len := [2]) (byt := [[32, z]]) (A := A) (fun i hi => by
      rw [show i = 0 by omega]
      decide) (fun _ _ => h1) (fun _ _ => h2) (fun _ _ => h3) (fun i hi => by
      rw [show i = 0 by omega]
      exact h4) (fun i hi j hj => by
      have e : i = 0 := by omega
      subst e
      have hj2 : j < 2 := hj
      rcases (by omega : j = 0 ∨ j = 1) with rfl | rfl
      · exact h5
      · exact h6) (fun i j hi hj hij => absurd (show i = j by omega) hij) hA
  exact ⟨adK 0, adV 0, hS.1 0 (by decide), hev 0 (by decide)⟩
/-- what stays true while the law runs holds at its start -/
theorem env_0 {s : State} {b L : Nat} {xs : Nat → Int32} (hts : ∀ w ∈ lw_tbl, w.before #[Value.ref b] s = true) (hX : va_X b L xs s s.heap) (hbl : b < s.heap.size) (hgv : (Jvm.Cond.and given_1 narrow_1).before #[Value.ref b] s = true) : ∃ K : KX, EnvU K s s.heap ∧ xb K = b ∧ xL K = L ∧ xS K = xs ∧ xz K = s.heap.size := by
  have hw : ∀ w ∈ nwL, w.before #[Value.ref b] s = true := flat_of_before _ hgv
  have hA : ∀ a : Nat, a < s.heap.size → ¬ (fun q : Nat => s.heap.size ≤ q) a := fun a h => Nat.not_le.mpr h
  obtain ⟨D, hD⟩ := kn_all hts
  obtain ⟨tT, eT, hT⟩ := va_Tof (tm := .static "java/lang/Integer" "DigitTens" "[B") (ty := .byte) (N := 100) (f := fun j => .int (roB (45, 0, 0) j)) (by decide) (hw _ nq_aT) (va_eqt (hw _ nq_lT)) (fun j hj => va_eqt (hw _ (nq_eT j hj))) hA
  obtain ⟨tO, eO, hO⟩ := va_Tof (tm := .static "java/lang/Integer" "DigitOnes" "[B") (ty := .byte) (N := 100) (f := fun j => .int (roB (46, 0, 0) j)) (by decide) (hw _ nq_aO) (va_eqt (hw _ nq_lO)) (fun j hj => va_eqt (hw _ (nq_eO j hj))) hA
  obtain ⟨k0, v0, p0, e0⟩ := str_0 hA (hw _ nq_s0x) (hw _ nq_s0c) (hw _ nq_s0a) (hw _ nq_s0l) (hw _ nq_s00) (hw _ nq_s01)
  obtain ⟨k1, v1, p1, e1⟩ := str_0 hA (hw _ nq_s1x) (hw _ nq_s1c) (hw _ nq_s1a) (hw _ nq_s1l) (hw _ nq_s10) (hw _ nq_s11)
  obtain ⟨k2, v2, p2, e2⟩ := str_0 hA (hw _ nq_s2x) (hw _ nq_s2c) (hw _ nq_s2a) (hw _ nq_s2l) (hw _ nq_s20) (hw _ nq_s21)
  obtain ⟨vn, hvn, hvr⟩ : ∃ vn : Value, va_Z zB.1 zB.2.1 zB.2.2 vn (fun q : Nat => s.heap.size ≤ q) s s.heap ∧ (vn = .null ∨ ∃ a, vn = .ref a) := by
    rcases va_Zqof (hts _ ls_fm) (hts _ in_P) (hw _ nq_fm) hA with h | ⟨t, h⟩
    · exact ⟨_, h, Or.inl rfl⟩
    · exact ⟨_, h, Or.inr ⟨t, rfl⟩⟩
  refine ⟨(D, tyK s, s.heap.size, (fun i => match i with | 0 => k0 | 1 => k1 | _ => k2), (fun i => match i with | 0 => v0 | 1 => v1 | _ => v2), tT, tO, b, L, xs, vn), ?_, rfl, rfl, rfl, rfl⟩
  refine ⟨GP.of hts, ⟨hD, ?_⟩, Nat.le_refl _, hX, hbl, ⟨?_, ?_⟩, hT, hO, va_Zof (hts _ ls_cs) (hts _ in_S) (va_eqt (hw _ nq_cs)) hA, va_Zof (hts _ ls_dt) (hts _ in_I) eT hA, va_Zof (hts _ ls_do) (hts _ in_I) eO hA, hvn, hvr, vx_Zqof (hts _ ls_us) (hts _ in_T) (hw _ nq_us) hA, vx_Zqof (hts _ ls_ss) (hts _ in_T) (hw _ nq_ss) hA, ?_, ?_, ?_, va_AO.of (hts _ tw_St), va_AO.of (hts _ tw_Bk)⟩
  · intro k q hq
    match k, hq with
    | 0, hq => cases hq; exact tyK_ok (ar_p (hts _ tw_int) (by simp))
    | 1, hq => cases hq; exact tyK_ok (ar_p (hts _ tw_long) (by simp))
    | 2, hq => cases hq; exact tyK_ok (ar_p (hts _ tw_byte) (by simp))
    | 3, hq => cases hq; exact tyK_ok (ar_p (hts _ tw_boolean) (by simp))
    | 4, hq => cases hq; exact tyK_ok (ar_p (hts _ tw_double) (by simp))
    | 5, hq => cases hq; exact tyK_ok (ar_o (hts _ tw_St))
    | 6, hq => cases hq; exact tyK_ok (ar_o (hts _ tw_Bk))
    | k + 7, hq => simp [xTy] at hq
  · intro i hi
    rcases (by omega : i = 0 ∨ i = 1 ∨ i = 2) with rfl | rfl | rfl
    · exact p0
    · exact p1
    · exact p2
  · intro i j hi hj hij
    have n01 : ¬ k0 = k1 := fun h => by
      subst h
      exact absurd (Value.int.inj (str_1 p0.2.2.1 p0.2.2.2 p1.2.2.1 p1.2.2.2)) (by decide)
    have n02 : ¬ k0 = k2 := fun h => by
      subst h
      exact absurd (Value.int.inj (str_1 p0.2.2.1 p0.2.2.2 p2.2.2.1 p2.2.2.2)) (by decide)
    have n12 : ¬ k1 = k2 := fun h => by
      subst h
      exact absurd (Value.int.inj (str_1 p1.2.2.1 p1.2.2.2 p2.2.2.1 p2.2.2.2)) (by decide)
    rcases (by omega : i = 0 ∨ i = 1 ∨ i = 2) with rfl | rfl | rfl <;> rcases (by omega : j = 0 ∨ j = 1 ∨ j = 2) with rfl | rfl | rfl
    · rfl
    · exact absurd hij n01
    · exact absurd hij n02
    · exact absurd hij.symm n01
    · rfl
    · exact absurd hij n12
    · exact absurd hij.symm n02
    · exact absurd hij.symm n12
    · rfl
  · intro i hi
    rcases (by omega : i = 0 ∨ i = 1 ∨ i = 2) with rfl | rfl | rfl
    · exact vk_R.of (hts _ sr_0) e0
    · exact vk_R.of (hts _ sr_1) e1
    · exact vk_R.of (hts _ sr_2) e2
  · intro q hq
    obtain ⟨i, hi⟩ := List.getElem?_of_mem hq
    have hlt : i < 21 := (List.getElem?_eq_some_iff.mp hi).1
    obtain ⟨a, -, -, -, h9, -⟩ := Cond.exactly_spec (hw _ (nq_ex i hlt q hi))
    exact ⟨a, vk_R.of (hts _ (sr_ex q hq)) h9⟩
  · intro i j hi hj hij
    exact va_Nc.of (hw _ (nq_nc i hi j hj hij))
