/-! SOUNDNESS: the words of the class's own throws -/
theorem xw_0 : (Cond.initialized Bundle.tN) ∈ GB := tk_1 (List.mem_of_getElem? (i := 15) (by decide +kernel)) rfl
theorem xw_1 : (Cond.superclass Bundle.tN "java/lang/Object") ∈ GB := tk_3 (List.mem_of_getElem? (i := 79) (by decide +kernel)) rfl
theorem xw_2 : (Cond.instanceMethod Bundle.tFill) ∈ GB := tk_3 (List.mem_of_getElem? (i := 88) (by decide +kernel)) rfl
theorem xw_3 : (Cond.codeSync Bundle.tFill Jvm.LibCode.Throwable.Fill.code 1 (some (.object Bundle.tN))) ∈ GB := tk_3 (List.mem_of_getElem? (i := 97) (by decide +kernel)) rfl
theorem xw_4 : (Cond.instanceMethod Bundle.tFill0) ∈ GB := tk_3 (List.mem_of_getElem? (i := 100) (by decide +kernel)) rfl
theorem xw_5 : (Cond.native Bundle.tFill0) ∈ GB := tk_3 (List.mem_of_getElem? (i := 102) (by decide +kernel)) rfl
theorem xw_6 : (Cond.instanceMethod Bundle.tInit0) ∈ GB := tk_3 (List.mem_of_getElem? (i := 80) (by decide +kernel)) rfl
theorem xw_7 : (Cond.code Bundle.tInit0 Jvm.LibCode.Throwable.Init0.code 1 none) ∈ GB := tk_3 (List.mem_of_getElem? (i := 81) (by decide +kernel)) rfl
theorem xw_8 : (Cond.instanceMethod Bundle.oInit) ∈ GB := tk_1 (List.mem_of_getElem? (i := 40) (by decide +kernel)) rfl
theorem xw_9 : (Cond.code Bundle.oInit ⟨#[0xb1]⟩ 1 none) ∈ GB := tk_1 (List.mem_of_getElem? (i := 41) (by decide +kernel)) rfl
theorem xw_10 : (Cond.methodLink Bundle.tN 1 Bundle.oInit) ∈ GB := tk_3 (List.mem_of_getElem? (i := 82) (by decide +kernel)) rfl
theorem xw_11 : (Cond.methodLink Bundle.tN 27 Bundle.tFill) ∈ GB := tk_3 (List.mem_of_getElem? (i := 87) (by decide +kernel)) rfl
theorem xw_12 : (Cond.methodLink Bundle.tN 202 Bundle.tFill0) ∈ GB := tk_3 (List.mem_of_getElem? (i := 98) (by decide +kernel)) rfl
theorem xw_13 : (Cond.fieldLink Bundle.tN 7 Bundle.tN "cause" "Ljava/lang/Throwable;") ∈ GB := tk_3 (List.mem_of_getElem? (i := 118) (by decide +kernel)) rfl
theorem xw_14 : (Cond.lays Bundle.tN Bundle.tN "cause" "Ljava/lang/Throwable;") ∈ GB := tk_3 (List.mem_of_getElem? (i := 69) (by decide +kernel)) rfl
theorem xw_15 : (Cond.fieldLink Bundle.tN 17 Bundle.tN "stackTrace" Bundle.steD) ∈ GB := tk_3 (List.mem_of_getElem? (i := 119) (by decide +kernel)) rfl
theorem xw_16 : (Cond.lays Bundle.tN Bundle.tN "stackTrace" Bundle.steD) ∈ GB := tk_3 (List.mem_of_getElem? (i := 71) (by decide +kernel)) rfl
theorem xw_17 : (Cond.fieldLink Bundle.tN 24 Bundle.tN "suppressedExceptions" Bundle.listD) ∈ GB := tk_3 (List.mem_of_getElem? (i := 120) (by decide +kernel)) rfl
theorem xw_18 : (Cond.lays Bundle.tN Bundle.tN "suppressedExceptions" Bundle.listD) ∈ GB := tk_3 (List.mem_of_getElem? (i := 73) (by decide +kernel)) rfl
theorem xw_19 : (Cond.fieldLink Bundle.tN 13 Bundle.tN "UNASSIGNED_STACK" Bundle.steD) ∈ GB := tk_3 (List.mem_of_getElem? (i := 83) (by decide +kernel)) rfl
theorem xw_20 : (Cond.fieldLink Bundle.tN 20 Bundle.tN "SUPPRESSED_SENTINEL" Bundle.listD) ∈ GB := tk_3 (List.mem_of_getElem? (i := 85) (by decide +kernel)) rfl
theorem xw_21 : (Cond.lays Bundle.tN Bundle.tN "detailMessage" "Ljava/lang/String;") ∈ GB := tk_3 (List.mem_of_getElem? (i := 75) (by decide +kernel)) rfl
theorem thA : ∀ w ∈ Bundle.throwableAtoms, vx_no w = true → w ∈ GB := List.forall_mem_cons.mpr ⟨(fun _ => xw_0), List.forall_mem_cons.mpr ⟨(fun _ => xw_1), List.forall_mem_cons.mpr ⟨(fun _ => xw_2), List.forall_mem_cons.mpr ⟨(fun _ => xw_3), List.forall_mem_cons.mpr ⟨(fun _ => xw_4), List.forall_mem_cons.mpr ⟨(fun _ => xw_5), List.forall_mem_cons.mpr ⟨(fun _ => xw_6), List.forall_mem_cons.mpr ⟨(fun _ => xw_7), List.forall_mem_cons.mpr ⟨(fun _ => xw_8), List.forall_mem_cons.mpr ⟨(fun _ => xw_9), List.forall_mem_cons.mpr ⟨(fun _ => xw_10), List.forall_mem_cons.mpr ⟨(fun _ => xw_11), List.forall_mem_cons.mpr ⟨(fun _ => xw_12), List.forall_mem_cons.mpr ⟨(fun _ => xw_13), List.forall_mem_cons.mpr ⟨(fun _ => xw_14), List.forall_mem_cons.mpr ⟨(fun _ => xw_15), List.forall_mem_cons.mpr ⟨(fun _ => xw_16), List.forall_mem_cons.mpr ⟨(fun _ => xw_17), List.forall_mem_cons.mpr ⟨(fun _ => xw_18), List.forall_mem_cons.mpr ⟨(fun _ => xw_19), List.forall_mem_cons.mpr ⟨(fun h => absurd h (by decide +kernel)), List.forall_mem_cons.mpr ⟨(fun _ => xw_20), List.forall_mem_cons.mpr ⟨(fun h => absurd h (by decide +kernel)), List.forall_mem_cons.mpr ⟨(fun _ => xw_21), fun w h => absurd h List.not_mem_nil⟩⟩⟩⟩⟩⟩⟩⟩⟩⟩⟩⟩⟩⟩⟩⟩⟩⟩⟩⟩⟩⟩⟩⟩
theorem xw_22 : (Cond.instanceMethod (Bundle.initS Bundle.tN)) ∈ GB := tk_3 (List.mem_of_getElem? (i := 114) (by decide +kernel)) rfl
theorem xw_23 : (Cond.code (Bundle.initS Bundle.tN) Jvm.LibCode.Throwable.InitS.code 2 none) ∈ GB := tk_3 (List.mem_of_getElem? (i := 115) (by decide +kernel)) rfl
theorem xw_24 : (Cond.fieldLink Bundle.tN 31 Bundle.tN "detailMessage" "Ljava/lang/String;") ∈ GB := tk_3 (List.mem_of_getElem? (i := 117) (by decide +kernel)) rfl
theorem thS : ∀ w ∈ Bundle.throwableSAtoms, vx_no w = true → w ∈ GB := List.forall_mem_cons.mpr ⟨(fun _ => xw_22), List.forall_mem_cons.mpr ⟨(fun _ => xw_23), List.forall_mem_cons.mpr ⟨(fun _ => xw_24), List.forall_mem_cons.mpr ⟨(fun _ => xw_21), fun w h => absurd h List.not_mem_nil⟩⟩⟩⟩
theorem xw_25 : (Cond.instanceMethod (Bundle.initS "java/lang/IllegalArgumentException")) ∈ GB := tk_3 (List.mem_of_getElem? (i := 105) (by decide +kernel)) rfl
theorem xw_26 : (Cond.code (Bundle.initS "java/lang/IllegalArgumentException") Bundle.six 2 none) ∈ GB := tk_3 (List.mem_of_getElem? (i := 106) (by decide +kernel)) rfl
theorem xw_27 : (Cond.methodLink "java/lang/IllegalArgumentException" 7 (Bundle.initS "java/lang/RuntimeException")) ∈ GB := tk_3 (List.mem_of_getElem? (i := 107) (by decide +kernel)) rfl
theorem xw_28 : (Cond.instanceMethod (Bundle.initS "java/lang/RuntimeException")) ∈ GB := tk_3 (List.mem_of_getElem? (i := 108) (by decide +kernel)) rfl
theorem xw_29 : (Cond.declares (Bundle.initS "java/lang/RuntimeException")) ∈ GB := tk_3 (List.mem_of_getElem? (i := 61) (by decide +kernel)) rfl
theorem xw_30 : (Cond.code (Bundle.initS "java/lang/RuntimeException") Bundle.six 2 none) ∈ GB := tk_3 (List.mem_of_getElem? (i := 109) (by decide +kernel)) rfl
theorem xw_31 : (Cond.methodLink "java/lang/RuntimeException" 7 (Bundle.initS "java/lang/Exception")) ∈ GB := tk_3 (List.mem_of_getElem? (i := 110) (by decide +kernel)) rfl
theorem xw_32 : (Cond.instanceMethod (Bundle.initS "java/lang/Exception")) ∈ GB := tk_3 (List.mem_of_getElem? (i := 111) (by decide +kernel)) rfl
theorem xw_33 : (Cond.declares (Bundle.initS "java/lang/Exception")) ∈ GB := tk_3 (List.mem_of_getElem? (i := 63) (by decide +kernel)) rfl
theorem xw_34 : (Cond.code (Bundle.initS "java/lang/Exception") Bundle.six 2 none) ∈ GB := tk_3 (List.mem_of_getElem? (i := 112) (by decide +kernel)) rfl
theorem xw_35 : (Cond.methodLink "java/lang/Exception" 7 (Bundle.initS Bundle.tN)) ∈ GB := tk_3 (List.mem_of_getElem? (i := 113) (by decide +kernel)) rfl
theorem xw_36 : (Cond.declares (Bundle.initS Bundle.tN)) ∈ GB := tk_3 (List.mem_of_getElem? (i := 65) (by decide +kernel)) rfl
theorem ch_0 : ∀ w ∈ Bundle.chainSAtoms "java/lang/IllegalArgumentException" ["java/lang/RuntimeException", "java/lang/Exception"], vx_no w = true → w ∈ GB := List.forall_mem_cons.mpr ⟨(fun _ => xw_25), List.forall_mem_cons.mpr ⟨(fun _ => xw_26), List.forall_mem_cons.mpr ⟨(fun _ => xw_27), List.forall_mem_cons.mpr ⟨(fun _ => xw_28), List.forall_mem_cons.mpr ⟨(fun _ => xw_29), List.forall_mem_cons.mpr ⟨(fun _ => xw_28), List.forall_mem_cons.mpr ⟨(fun _ => xw_30), List.forall_mem_cons.mpr ⟨(fun _ => xw_31), List.forall_mem_cons.mpr ⟨(fun _ => xw_32), List.forall_mem_cons.mpr ⟨(fun _ => xw_33), List.forall_mem_cons.mpr ⟨(fun _ => xw_32), List.forall_mem_cons.mpr ⟨(fun _ => xw_34), List.forall_mem_cons.mpr ⟨(fun _ => xw_35), List.forall_mem_cons.mpr ⟨(fun _ => xw_22), List.forall_mem_cons.mpr ⟨(fun _ => xw_36), fun w h => absurd h List.not_mem_nil⟩⟩⟩⟩⟩⟩⟩⟩⟩⟩⟩⟩⟩⟩⟩
theorem xw_37 : (Cond.instantiable "java/lang/IllegalArgumentException" 6) ∈ GB := tk_3 (List.mem_of_getElem? (i := 58) (by decide +kernel)) rfl
theorem xw_38 : (Cond.castable "java/lang/IllegalArgumentException" "java/lang/IllegalArgumentException") ∈ GB := tk_3 (List.mem_of_getElem? (i := 59) (by decide +kernel)) rfl
theorem xw_39 : (Cond.selects "java/lang/IllegalArgumentException" Bundle.tFill0 Bundle.tFill0) ∈ GB := tk_3 (List.mem_of_getElem? (i := 66) (by decide +kernel)) rfl
theorem xw_40 : (Cond.selects "java/lang/IllegalArgumentException" Bundle.tFill Bundle.tFill) ∈ GB := tk_3 (List.mem_of_getElem? (i := 67) (by decide +kernel)) rfl
theorem xw_41 : (Cond.lays "java/lang/IllegalArgumentException" Bundle.tN "cause" "Ljava/lang/Throwable;") ∈ GB := tk_3 (List.mem_of_getElem? (i := 68) (by decide +kernel)) rfl
theorem xw_42 : (Cond.lays "java/lang/IllegalArgumentException" Bundle.tN "stackTrace" Bundle.steD) ∈ GB := tk_3 (List.mem_of_getElem? (i := 70) (by decide +kernel)) rfl
theorem xw_43 : (Cond.lays "java/lang/IllegalArgumentException" Bundle.tN "suppressedExceptions" Bundle.listD) ∈ GB := tk_3 (List.mem_of_getElem? (i := 72) (by decide +kernel)) rfl
theorem xw_44 : (Cond.lays "java/lang/IllegalArgumentException" Bundle.tN "detailMessage" "Ljava/lang/String;") ∈ GB := tk_3 (List.mem_of_getElem? (i := 74) (by decide +kernel)) rfl
theorem xw_45 : (Cond.fieldLink Bundle.tN 198 Bundle.tN "backtrace" "Ljava/lang/Object;") ∈ GB := tk_3 (List.mem_of_getElem? (i := 78) (by decide +kernel)) rfl
theorem xw_46 : (Cond.lays Bundle.tN Bundle.tN "backtrace" "Ljava/lang/Object;") ∈ GB := tk_3 (List.mem_of_getElem? (i := 77) (by decide +kernel)) rfl
theorem xw_47 : (Cond.lays "java/lang/IllegalArgumentException" Bundle.tN "backtrace" "Ljava/lang/Object;") ∈ GB := tk_3 (List.mem_of_getElem? (i := 76) (by decide +kernel)) rfl
theorem atS_0 {ic : Nat} (hm : Cond.methodLink "FrequencyOffice" ic (Bundle.initS "java/lang/IllegalArgumentException") ∈ GB) : ∀ w ∈ vx_atS "FrequencyOffice" ic "java/lang/IllegalArgumentException" ["java/lang/RuntimeException", "java/lang/Exception"], w ∈ GB := by
  intro w hw
  obtain ⟨h1, h2⟩ := List.mem_filter.mp hw
  unfold Bundle.ownAtoms at h1
  rcases List.mem_append.mp h1 with h1 | h1
  · rcases List.mem_append.mp h1 with h1 | h1
    · rcases List.mem_append.mp h1 with h1 | h1
      · exact thA w h1 h2
      · exact thS w h1 h2
    · exact ch_0 w h1 h2
  · rcases List.mem_cons.mp h1 with h1 | h1
    · rw [h1]; exact hm
    · exact ((List.forall_mem_cons.mpr ⟨(fun _ => xw_37), List.forall_mem_cons.mpr ⟨(fun _ => xw_38), List.forall_mem_cons.mpr ⟨(fun _ => xw_39), List.forall_mem_cons.mpr ⟨(fun _ => xw_40), List.forall_mem_cons.mpr ⟨(fun _ => xw_41), List.forall_mem_cons.mpr ⟨(fun _ => xw_42), List.forall_mem_cons.mpr ⟨(fun _ => xw_43), List.forall_mem_cons.mpr ⟨(fun _ => xw_44), List.forall_mem_cons.mpr ⟨(fun h => absurd h (by decide +kernel)), List.forall_mem_cons.mpr ⟨(fun h => absurd h (by decide +kernel)), List.forall_mem_cons.mpr ⟨(fun _ => xw_45), List.forall_mem_cons.mpr ⟨(fun _ => xw_46), List.forall_mem_cons.mpr ⟨(fun _ => xw_47), fun w h => absurd h List.not_mem_nil⟩⟩⟩⟩⟩⟩⟩⟩⟩⟩⟩⟩⟩) : ∀ w ∈ _, vx_no w = true → w ∈ GB) w h1 h2
theorem ini_0 : Cond.initialized "java/lang/IllegalArgumentException" ∈ GB := tk_1 (List.mem_of_getElem? (i := 18) (by decide +kernel)) rfl
theorem xw_48 : (Cond.instanceMethod (Bundle.initS "java/lang/IllegalStateException")) ∈ GB := tk_3 (List.mem_of_getElem? (i := 140) (by decide +kernel)) rfl
theorem xw_49 : (Cond.code (Bundle.initS "java/lang/IllegalStateException") Bundle.six 2 none) ∈ GB := tk_3 (List.mem_of_getElem? (i := 141) (by decide +kernel)) rfl
theorem xw_50 : (Cond.methodLink "java/lang/IllegalStateException" 7 (Bundle.initS "java/lang/RuntimeException")) ∈ GB := tk_3 (List.mem_of_getElem? (i := 142) (by decide +kernel)) rfl
theorem ch_1 : ∀ w ∈ Bundle.chainSAtoms "java/lang/IllegalStateException" ["java/lang/RuntimeException", "java/lang/Exception"], vx_no w = true → w ∈ GB := List.forall_mem_cons.mpr ⟨(fun _ => xw_48), List.forall_mem_cons.mpr ⟨(fun _ => xw_49), List.forall_mem_cons.mpr ⟨(fun _ => xw_50), List.forall_mem_cons.mpr ⟨(fun _ => xw_28), List.forall_mem_cons.mpr ⟨(fun _ => xw_29), List.forall_mem_cons.mpr ⟨(fun _ => xw_28), List.forall_mem_cons.mpr ⟨(fun _ => xw_30), List.forall_mem_cons.mpr ⟨(fun _ => xw_31), List.forall_mem_cons.mpr ⟨(fun _ => xw_32), List.forall_mem_cons.mpr ⟨(fun _ => xw_33), List.forall_mem_cons.mpr ⟨(fun _ => xw_32), List.forall_mem_cons.mpr ⟨(fun _ => xw_34), List.forall_mem_cons.mpr ⟨(fun _ => xw_35), List.forall_mem_cons.mpr ⟨(fun _ => xw_22), List.forall_mem_cons.mpr ⟨(fun _ => xw_36), fun w h => absurd h List.not_mem_nil⟩⟩⟩⟩⟩⟩⟩⟩⟩⟩⟩⟩⟩⟩⟩
theorem xw_51 : (Cond.instantiable "java/lang/IllegalStateException" 6) ∈ GB := tk_3 (List.mem_of_getElem? (i := 130) (by decide +kernel)) rfl
theorem xw_52 : (Cond.castable "java/lang/IllegalStateException" "java/lang/IllegalStateException") ∈ GB := tk_3 (List.mem_of_getElem? (i := 131) (by decide +kernel)) rfl
theorem xw_53 : (Cond.selects "java/lang/IllegalStateException" Bundle.tFill0 Bundle.tFill0) ∈ GB := tk_3 (List.mem_of_getElem? (i := 132) (by decide +kernel)) rfl
theorem xw_54 : (Cond.selects "java/lang/IllegalStateException" Bundle.tFill Bundle.tFill) ∈ GB := tk_3 (List.mem_of_getElem? (i := 92) (by decide +kernel)) rfl
theorem xw_55 : (Cond.lays "java/lang/IllegalStateException" Bundle.tN "cause" "Ljava/lang/Throwable;") ∈ GB := tk_3 (List.mem_of_getElem? (i := 133) (by decide +kernel)) rfl
theorem xw_56 : (Cond.lays "java/lang/IllegalStateException" Bundle.tN "stackTrace" Bundle.steD) ∈ GB := tk_3 (List.mem_of_getElem? (i := 134) (by decide +kernel)) rfl
theorem xw_57 : (Cond.lays "java/lang/IllegalStateException" Bundle.tN "suppressedExceptions" Bundle.listD) ∈ GB := tk_3 (List.mem_of_getElem? (i := 135) (by decide +kernel)) rfl
theorem xw_58 : (Cond.lays "java/lang/IllegalStateException" Bundle.tN "detailMessage" "Ljava/lang/String;") ∈ GB := tk_3 (List.mem_of_getElem? (i := 136) (by decide +kernel)) rfl
theorem xw_59 : (Cond.lays "java/lang/IllegalStateException" Bundle.tN "backtrace" "Ljava/lang/Object;") ∈ GB := tk_3 (List.mem_of_getElem? (i := 137) (by decide +kernel)) rfl
theorem atS_1 {ic : Nat} (hm : Cond.methodLink "FrequencyOffice" ic (Bundle.initS "java/lang/IllegalStateException") ∈ GB) : ∀ w ∈ vx_atS "FrequencyOffice" ic "java/lang/IllegalStateException" ["java/lang/RuntimeException", "java/lang/Exception"], w ∈ GB := by
  intro w hw
  obtain ⟨h1, h2⟩ := List.mem_filter.mp hw
  unfold Bundle.ownAtoms at h1
  rcases List.mem_append.mp h1 with h1 | h1
  · rcases List.mem_append.mp h1 with h1 | h1
    · rcases List.mem_append.mp h1 with h1 | h1
      · exact thA w h1 h2
      · exact thS w h1 h2
    · exact ch_1 w h1 h2
  · rcases List.mem_cons.mp h1 with h1 | h1
    · rw [h1]; exact hm
    · exact ((List.forall_mem_cons.mpr ⟨(fun _ => xw_51), List.forall_mem_cons.mpr ⟨(fun _ => xw_52), List.forall_mem_cons.mpr ⟨(fun _ => xw_53), List.forall_mem_cons.mpr ⟨(fun _ => xw_54), List.forall_mem_cons.mpr ⟨(fun _ => xw_55), List.forall_mem_cons.mpr ⟨(fun _ => xw_56), List.forall_mem_cons.mpr ⟨(fun _ => xw_57), List.forall_mem_cons.mpr ⟨(fun _ => xw_58), List.forall_mem_cons.mpr ⟨(fun h => absurd h (by decide +kernel)), List.forall_mem_cons.mpr ⟨(fun h => absurd h (by decide +kernel)), List.forall_mem_cons.mpr ⟨(fun _ => xw_45), List.forall_mem_cons.mpr ⟨(fun _ => xw_46), List.forall_mem_cons.mpr ⟨(fun _ => xw_59), fun w h => absurd h List.not_mem_nil⟩⟩⟩⟩⟩⟩⟩⟩⟩⟩⟩⟩⟩) : ∀ w ∈ _, vx_no w = true → w ∈ GB) w h1 h2
theorem ini_1 : Cond.initialized "java/lang/IllegalStateException" ∈ GB := tk_1 (List.mem_of_getElem? (i := 26) (by decide +kernel)) rfl
theorem xw_60 : (Cond.instanceMethod (Bundle.initS "java/lang/UnsupportedOperationException")) ∈ GB := tk_4 (List.mem_of_getElem? (i := 5) (by decide +kernel)) rfl
theorem xw_61 : (Cond.code (Bundle.initS "java/lang/UnsupportedOperationException") Bundle.six 2 none) ∈ GB := tk_4 (List.mem_of_getElem? (i := 6) (by decide +kernel)) rfl
theorem xw_62 : (Cond.methodLink "java/lang/UnsupportedOperationException" 7 (Bundle.initS "java/lang/RuntimeException")) ∈ GB := tk_4 (List.mem_of_getElem? (i := 7) (by decide +kernel)) rfl
theorem ch_2 : ∀ w ∈ Bundle.chainSAtoms "java/lang/UnsupportedOperationException" ["java/lang/RuntimeException", "java/lang/Exception"], vx_no w = true → w ∈ GB := List.forall_mem_cons.mpr ⟨(fun _ => xw_60), List.forall_mem_cons.mpr ⟨(fun _ => xw_61), List.forall_mem_cons.mpr ⟨(fun _ => xw_62), List.forall_mem_cons.mpr ⟨(fun _ => xw_28), List.forall_mem_cons.mpr ⟨(fun _ => xw_29), List.forall_mem_cons.mpr ⟨(fun _ => xw_28), List.forall_mem_cons.mpr ⟨(fun _ => xw_30), List.forall_mem_cons.mpr ⟨(fun _ => xw_31), List.forall_mem_cons.mpr ⟨(fun _ => xw_32), List.forall_mem_cons.mpr ⟨(fun _ => xw_33), List.forall_mem_cons.mpr ⟨(fun _ => xw_32), List.forall_mem_cons.mpr ⟨(fun _ => xw_34), List.forall_mem_cons.mpr ⟨(fun _ => xw_35), List.forall_mem_cons.mpr ⟨(fun _ => xw_22), List.forall_mem_cons.mpr ⟨(fun _ => xw_36), fun w h => absurd h List.not_mem_nil⟩⟩⟩⟩⟩⟩⟩⟩⟩⟩⟩⟩⟩⟩⟩
theorem xw_63 : (Cond.instantiable "java/lang/UnsupportedOperationException" 6) ∈ GB := tk_3 (List.mem_of_getElem? (i := 235) (by decide +kernel)) rfl
theorem xw_64 : (Cond.castable "java/lang/UnsupportedOperationException" "java/lang/UnsupportedOperationException") ∈ GB := tk_3 (List.mem_of_getElem? (i := 236) (by decide +kernel)) rfl
theorem xw_65 : (Cond.selects "java/lang/UnsupportedOperationException" Bundle.tFill0 Bundle.tFill0) ∈ GB := tk_3 (List.mem_of_getElem? (i := 237) (by decide +kernel)) rfl
theorem xw_66 : (Cond.selects "java/lang/UnsupportedOperationException" Bundle.tFill Bundle.tFill) ∈ GB := tk_3 (List.mem_of_getElem? (i := 95) (by decide +kernel)) rfl
theorem xw_67 : (Cond.lays "java/lang/UnsupportedOperationException" Bundle.tN "cause" "Ljava/lang/Throwable;") ∈ GB := tk_3 (List.mem_of_getElem? (i := 238) (by decide +kernel)) rfl
theorem xw_68 : (Cond.lays "java/lang/UnsupportedOperationException" Bundle.tN "stackTrace" Bundle.steD) ∈ GB := tk_3 (List.mem_of_getElem? (i := 239) (by decide +kernel)) rfl
theorem xw_69 : (Cond.lays "java/lang/UnsupportedOperationException" Bundle.tN "suppressedExceptions" Bundle.listD) ∈ GB := tk_4 (List.mem_of_getElem? (i := 0) (by decide +kernel)) rfl
theorem xw_70 : (Cond.lays "java/lang/UnsupportedOperationException" Bundle.tN "detailMessage" "Ljava/lang/String;") ∈ GB := tk_4 (List.mem_of_getElem? (i := 1) (by decide +kernel)) rfl
theorem xw_71 : (Cond.lays "java/lang/UnsupportedOperationException" Bundle.tN "backtrace" "Ljava/lang/Object;") ∈ GB := tk_4 (List.mem_of_getElem? (i := 2) (by decide +kernel)) rfl
theorem atS_2 {ic : Nat} (hm : Cond.methodLink "FrequencyOffice" ic (Bundle.initS "java/lang/UnsupportedOperationException") ∈ GB) : ∀ w ∈ vx_atS "FrequencyOffice" ic "java/lang/UnsupportedOperationException" ["java/lang/RuntimeException", "java/lang/Exception"], w ∈ GB := by
  intro w hw
  obtain ⟨h1, h2⟩ := List.mem_filter.mp hw
  unfold Bundle.ownAtoms at h1
  rcases List.mem_append.mp h1 with h1 | h1
  · rcases List.mem_append.mp h1 with h1 | h1
    · rcases List.mem_append.mp h1 with h1 | h1
      · exact thA w h1 h2
      · exact thS w h1 h2
    · exact ch_2 w h1 h2
  · rcases List.mem_cons.mp h1 with h1 | h1
    · rw [h1]; exact hm
    · exact ((List.forall_mem_cons.mpr ⟨(fun _ => xw_63), List.forall_mem_cons.mpr ⟨(fun _ => xw_64), List.forall_mem_cons.mpr ⟨(fun _ => xw_65), List.forall_mem_cons.mpr ⟨(fun _ => xw_66), List.forall_mem_cons.mpr ⟨(fun _ => xw_67), List.forall_mem_cons.mpr ⟨(fun _ => xw_68), List.forall_mem_cons.mpr ⟨(fun _ => xw_69), List.forall_mem_cons.mpr ⟨(fun _ => xw_70), List.forall_mem_cons.mpr ⟨(fun h => absurd h (by decide +kernel)), List.forall_mem_cons.mpr ⟨(fun h => absurd h (by decide +kernel)), List.forall_mem_cons.mpr ⟨(fun _ => xw_45), List.forall_mem_cons.mpr ⟨(fun _ => xw_46), List.forall_mem_cons.mpr ⟨(fun _ => xw_71), fun w h => absurd h List.not_mem_nil⟩⟩⟩⟩⟩⟩⟩⟩⟩⟩⟩⟩⟩) : ∀ w ∈ _, vx_no w = true → w ∈ GB) w h1 h2
theorem ini_2 : Cond.initialized "java/lang/UnsupportedOperationException" ∈ GB := tk_1 (List.mem_of_getElem? (i := 27) (by decide +kernel)) rfl
theorem xw_72 : (Cond.instanceMethod (Bundle.initS "java/util/NoSuchElementException")) ∈ GB := tk_4 (List.mem_of_getElem? (i := 76) (by decide +kernel)) rfl
theorem xw_73 : (Cond.code (Bundle.initS "java/util/NoSuchElementException") ⟨#[0x2a, 0x2b, 0xb7, 0x00, 0x0d, 0xb1]⟩ 2 none) ∈ GB := tk_4 (List.mem_of_getElem? (i := 77) (by decide +kernel)) rfl
theorem xw_74 : (Cond.methodLink "java/util/NoSuchElementException" 13 (Bundle.initS "java/lang/RuntimeException")) ∈ GB := tk_4 (List.mem_of_getElem? (i := 78) (by decide +kernel)) rfl
theorem ch_3 : ∀ w ∈ Bundle.passSAtoms "java/util/NoSuchElementException" "java/lang/RuntimeException" 13 ⟨#[0x2a, 0x2b, 0xb7, 0x00, 0x0d, 0xb1]⟩ ++ Bundle.chainSAtoms "java/lang/RuntimeException" ["java/lang/Exception"], vx_no w = true → w ∈ GB := List.forall_mem_cons.mpr ⟨(fun _ => xw_72), List.forall_mem_cons.mpr ⟨(fun _ => xw_73), List.forall_mem_cons.mpr ⟨(fun _ => xw_74), List.forall_mem_cons.mpr ⟨(fun _ => xw_28), List.forall_mem_cons.mpr ⟨(fun _ => xw_29), List.forall_mem_cons.mpr ⟨(fun _ => xw_28), List.forall_mem_cons.mpr ⟨(fun _ => xw_30), List.forall_mem_cons.mpr ⟨(fun _ => xw_31), List.forall_mem_cons.mpr ⟨(fun _ => xw_32), List.forall_mem_cons.mpr ⟨(fun _ => xw_33), List.forall_mem_cons.mpr ⟨(fun _ => xw_32), List.forall_mem_cons.mpr ⟨(fun _ => xw_34), List.forall_mem_cons.mpr ⟨(fun _ => xw_35), List.forall_mem_cons.mpr ⟨(fun _ => xw_22), List.forall_mem_cons.mpr ⟨(fun _ => xw_36), fun w h => absurd h List.not_mem_nil⟩⟩⟩⟩⟩⟩⟩⟩⟩⟩⟩⟩⟩⟩⟩
theorem xw_75 : (Cond.instantiable "java/util/NoSuchElementException" 6) ∈ GB := tk_4 (List.mem_of_getElem? (i := 66) (by decide +kernel)) rfl
theorem xw_76 : (Cond.castable "java/util/NoSuchElementException" "java/util/NoSuchElementException") ∈ GB := tk_4 (List.mem_of_getElem? (i := 67) (by decide +kernel)) rfl
theorem xw_77 : (Cond.selects "java/util/NoSuchElementException" Bundle.tFill0 Bundle.tFill0) ∈ GB := tk_4 (List.mem_of_getElem? (i := 68) (by decide +kernel)) rfl
theorem xw_78 : (Cond.selects "java/util/NoSuchElementException" Bundle.tFill Bundle.tFill) ∈ GB := tk_3 (List.mem_of_getElem? (i := 96) (by decide +kernel)) rfl
theorem xw_79 : (Cond.lays "java/util/NoSuchElementException" Bundle.tN "cause" "Ljava/lang/Throwable;") ∈ GB := tk_4 (List.mem_of_getElem? (i := 69) (by decide +kernel)) rfl
theorem xw_80 : (Cond.lays "java/util/NoSuchElementException" Bundle.tN "stackTrace" Bundle.steD) ∈ GB := tk_4 (List.mem_of_getElem? (i := 70) (by decide +kernel)) rfl
theorem xw_81 : (Cond.lays "java/util/NoSuchElementException" Bundle.tN "suppressedExceptions" Bundle.listD) ∈ GB := tk_4 (List.mem_of_getElem? (i := 71) (by decide +kernel)) rfl
theorem xw_82 : (Cond.lays "java/util/NoSuchElementException" Bundle.tN "detailMessage" "Ljava/lang/String;") ∈ GB := tk_4 (List.mem_of_getElem? (i := 72) (by decide +kernel)) rfl
theorem xw_83 : (Cond.lays "java/util/NoSuchElementException" Bundle.tN "backtrace" "Ljava/lang/Object;") ∈ GB := tk_4 (List.mem_of_getElem? (i := 73) (by decide +kernel)) rfl
theorem ini_3 : Cond.initialized "java/util/NoSuchElementException" ∈ GB := tk_1 (List.mem_of_getElem? (i := 28) (by decide +kernel)) rfl
theorem xw_84 : (Cond.instanceMethod (Bundle.initS "java/lang/IndexOutOfBoundsException")) ∈ GB := tk_4 (List.mem_of_getElem? (i := 122) (by decide +kernel)) rfl
theorem xw_85 : (Cond.code (Bundle.initS "java/lang/IndexOutOfBoundsException") Bundle.six 2 none) ∈ GB := tk_4 (List.mem_of_getElem? (i := 123) (by decide +kernel)) rfl
theorem xw_86 : (Cond.methodLink "java/lang/IndexOutOfBoundsException" 7 (Bundle.initS "java/lang/RuntimeException")) ∈ GB := tk_4 (List.mem_of_getElem? (i := 124) (by decide +kernel)) rfl
theorem ch_4 : ∀ w ∈ Bundle.chainSAtoms "java/lang/IndexOutOfBoundsException" ["java/lang/RuntimeException", "java/lang/Exception"], vx_no w = true → w ∈ GB := List.forall_mem_cons.mpr ⟨(fun _ => xw_84), List.forall_mem_cons.mpr ⟨(fun _ => xw_85), List.forall_mem_cons.mpr ⟨(fun _ => xw_86), List.forall_mem_cons.mpr ⟨(fun _ => xw_28), List.forall_mem_cons.mpr ⟨(fun _ => xw_29), List.forall_mem_cons.mpr ⟨(fun _ => xw_28), List.forall_mem_cons.mpr ⟨(fun _ => xw_30), List.forall_mem_cons.mpr ⟨(fun _ => xw_31), List.forall_mem_cons.mpr ⟨(fun _ => xw_32), List.forall_mem_cons.mpr ⟨(fun _ => xw_33), List.forall_mem_cons.mpr ⟨(fun _ => xw_32), List.forall_mem_cons.mpr ⟨(fun _ => xw_34), List.forall_mem_cons.mpr ⟨(fun _ => xw_35), List.forall_mem_cons.mpr ⟨(fun _ => xw_22), List.forall_mem_cons.mpr ⟨(fun _ => xw_36), fun w h => absurd h List.not_mem_nil⟩⟩⟩⟩⟩⟩⟩⟩⟩⟩⟩⟩⟩⟩⟩
theorem xw_87 : (Cond.instantiable "java/lang/IndexOutOfBoundsException" 6) ∈ GB := tk_4 (List.mem_of_getElem? (i := 150) (by decide +kernel)) rfl
theorem xw_88 : (Cond.castable "java/lang/IndexOutOfBoundsException" "java/lang/IndexOutOfBoundsException") ∈ GB := tk_4 (List.mem_of_getElem? (i := 151) (by decide +kernel)) rfl
theorem xw_89 : (Cond.selects "java/lang/IndexOutOfBoundsException" Bundle.tFill0 Bundle.tFill0) ∈ GB := tk_4 (List.mem_of_getElem? (i := 152) (by decide +kernel)) rfl
theorem xw_90 : (Cond.selects "java/lang/IndexOutOfBoundsException" Bundle.tFill Bundle.tFill) ∈ GB := tk_3 (List.mem_of_getElem? (i := 93) (by decide +kernel)) rfl
theorem xw_91 : (Cond.lays "java/lang/IndexOutOfBoundsException" Bundle.tN "cause" "Ljava/lang/Throwable;") ∈ GB := tk_4 (List.mem_of_getElem? (i := 153) (by decide +kernel)) rfl
theorem xw_92 : (Cond.lays "java/lang/IndexOutOfBoundsException" Bundle.tN "stackTrace" Bundle.steD) ∈ GB := tk_4 (List.mem_of_getElem? (i := 154) (by decide +kernel)) rfl
theorem xw_93 : (Cond.lays "java/lang/IndexOutOfBoundsException" Bundle.tN "suppressedExceptions" Bundle.listD) ∈ GB := tk_4 (List.mem_of_getElem? (i := 155) (by decide +kernel)) rfl
theorem xw_94 : (Cond.lays "java/lang/IndexOutOfBoundsException" Bundle.tN "detailMessage" "Ljava/lang/String;") ∈ GB := tk_4 (List.mem_of_getElem? (i := 156) (by decide +kernel)) rfl
theorem xw_95 : (Cond.lays "java/lang/IndexOutOfBoundsException" Bundle.tN "backtrace" "Ljava/lang/Object;") ∈ GB := tk_4 (List.mem_of_getElem? (i := 157) (by decide +kernel)) rfl
theorem atS_4 {ic : Nat} (hm : Cond.methodLink "FrequencyOffice" ic (Bundle.initS "java/lang/IndexOutOfBoundsException") ∈ GB) : ∀ w ∈ vx_atS "FrequencyOffice" ic "java/lang/IndexOutOfBoundsException" ["java/lang/RuntimeException", "java/lang/Exception"], w ∈ GB := by
  intro w hw
  obtain ⟨h1, h2⟩ := List.mem_filter.mp hw
  unfold Bundle.ownAtoms at h1
  rcases List.mem_append.mp h1 with h1 | h1
  · rcases List.mem_append.mp h1 with h1 | h1
    · rcases List.mem_append.mp h1 with h1 | h1
      · exact thA w h1 h2
      · exact thS w h1 h2
    · exact ch_4 w h1 h2
  · rcases List.mem_cons.mp h1 with h1 | h1
    · rw [h1]; exact hm
    · exact ((List.forall_mem_cons.mpr ⟨(fun _ => xw_87), List.forall_mem_cons.mpr ⟨(fun _ => xw_88), List.forall_mem_cons.mpr ⟨(fun _ => xw_89), List.forall_mem_cons.mpr ⟨(fun _ => xw_90), List.forall_mem_cons.mpr ⟨(fun _ => xw_91), List.forall_mem_cons.mpr ⟨(fun _ => xw_92), List.forall_mem_cons.mpr ⟨(fun _ => xw_93), List.forall_mem_cons.mpr ⟨(fun _ => xw_94), List.forall_mem_cons.mpr ⟨(fun h => absurd h (by decide +kernel)), List.forall_mem_cons.mpr ⟨(fun h => absurd h (by decide +kernel)), List.forall_mem_cons.mpr ⟨(fun _ => xw_45), List.forall_mem_cons.mpr ⟨(fun _ => xw_46), List.forall_mem_cons.mpr ⟨(fun _ => xw_95), fun w h => absurd h List.not_mem_nil⟩⟩⟩⟩⟩⟩⟩⟩⟩⟩⟩⟩⟩) : ∀ w ∈ _, vx_no w = true → w ∈ GB) w h1 h2
theorem ini_4 : Cond.initialized "java/lang/IndexOutOfBoundsException" ∈ GB := tk_1 (List.mem_of_getElem? (i := 29) (by decide +kernel)) rfl
theorem xw_96 : (Cond.instanceMethod (Bundle.initS "java/lang/ArithmeticException")) ∈ GB := tk_5 (List.mem_of_getElem? (i := 44) (by decide +kernel)) rfl
theorem xw_97 : (Cond.code (Bundle.initS "java/lang/ArithmeticException") Bundle.six 2 none) ∈ GB := tk_5 (List.mem_of_getElem? (i := 45) (by decide +kernel)) rfl
theorem xw_98 : (Cond.methodLink "java/lang/ArithmeticException" 7 (Bundle.initS "java/lang/RuntimeException")) ∈ GB := tk_5 (List.mem_of_getElem? (i := 46) (by decide +kernel)) rfl
theorem ch_5 : ∀ w ∈ Bundle.chainSAtoms "java/lang/ArithmeticException" ["java/lang/RuntimeException", "java/lang/Exception"], vx_no w = true → w ∈ GB := List.forall_mem_cons.mpr ⟨(fun _ => xw_96), List.forall_mem_cons.mpr ⟨(fun _ => xw_97), List.forall_mem_cons.mpr ⟨(fun _ => xw_98), List.forall_mem_cons.mpr ⟨(fun _ => xw_28), List.forall_mem_cons.mpr ⟨(fun _ => xw_29), List.forall_mem_cons.mpr ⟨(fun _ => xw_28), List.forall_mem_cons.mpr ⟨(fun _ => xw_30), List.forall_mem_cons.mpr ⟨(fun _ => xw_31), List.forall_mem_cons.mpr ⟨(fun _ => xw_32), List.forall_mem_cons.mpr ⟨(fun _ => xw_33), List.forall_mem_cons.mpr ⟨(fun _ => xw_32), List.forall_mem_cons.mpr ⟨(fun _ => xw_34), List.forall_mem_cons.mpr ⟨(fun _ => xw_35), List.forall_mem_cons.mpr ⟨(fun _ => xw_22), List.forall_mem_cons.mpr ⟨(fun _ => xw_36), fun w h => absurd h List.not_mem_nil⟩⟩⟩⟩⟩⟩⟩⟩⟩⟩⟩⟩⟩⟩⟩
theorem xw_99 : (Cond.instantiable "java/lang/ArithmeticException" 6) ∈ GB := tk_5 (List.mem_of_getElem? (i := 43) (by decide +kernel)) rfl
theorem xw_100 : (Cond.castable "java/lang/ArithmeticException" "java/lang/ArithmeticException") ∈ GB := tk_5 (List.mem_of_getElem? (i := 54) (by decide +kernel)) rfl
theorem xw_101 : (Cond.selects "java/lang/ArithmeticException" Bundle.tFill0 Bundle.tFill0) ∈ GB := tk_5 (List.mem_of_getElem? (i := 55) (by decide +kernel)) rfl
theorem xw_102 : (Cond.selects "java/lang/ArithmeticException" Bundle.tFill Bundle.tFill) ∈ GB := tk_3 (List.mem_of_getElem? (i := 90) (by decide +kernel)) rfl
theorem xw_103 : (Cond.lays "java/lang/ArithmeticException" Bundle.tN "cause" "Ljava/lang/Throwable;") ∈ GB := tk_5 (List.mem_of_getElem? (i := 49) (by decide +kernel)) rfl
theorem xw_104 : (Cond.lays "java/lang/ArithmeticException" Bundle.tN "stackTrace" Bundle.steD) ∈ GB := tk_5 (List.mem_of_getElem? (i := 50) (by decide +kernel)) rfl
theorem xw_105 : (Cond.lays "java/lang/ArithmeticException" Bundle.tN "suppressedExceptions" Bundle.listD) ∈ GB := tk_5 (List.mem_of_getElem? (i := 52) (by decide +kernel)) rfl
theorem xw_106 : (Cond.lays "java/lang/ArithmeticException" Bundle.tN "detailMessage" "Ljava/lang/String;") ∈ GB := tk_5 (List.mem_of_getElem? (i := 48) (by decide +kernel)) rfl
theorem xw_107 : (Cond.lays "java/lang/ArithmeticException" Bundle.tN "backtrace" "Ljava/lang/Object;") ∈ GB := tk_5 (List.mem_of_getElem? (i := 47) (by decide +kernel)) rfl
theorem atS_5 {ic : Nat} (hm : Cond.methodLink "FrequencyOffice" ic (Bundle.initS "java/lang/ArithmeticException") ∈ GB) : ∀ w ∈ vx_atS "FrequencyOffice" ic "java/lang/ArithmeticException" ["java/lang/RuntimeException", "java/lang/Exception"], w ∈ GB := by
  intro w hw
  obtain ⟨h1, h2⟩ := List.mem_filter.mp hw
  unfold Bundle.ownAtoms at h1
  rcases List.mem_append.mp h1 with h1 | h1
  · rcases List.mem_append.mp h1 with h1 | h1
    · rcases List.mem_append.mp h1 with h1 | h1
      · exact thA w h1 h2
      · exact thS w h1 h2
    · exact ch_5 w h1 h2
  · rcases List.mem_cons.mp h1 with h1 | h1
    · rw [h1]; exact hm
    · exact ((List.forall_mem_cons.mpr ⟨(fun _ => xw_99), List.forall_mem_cons.mpr ⟨(fun _ => xw_100), List.forall_mem_cons.mpr ⟨(fun _ => xw_101), List.forall_mem_cons.mpr ⟨(fun _ => xw_102), List.forall_mem_cons.mpr ⟨(fun _ => xw_103), List.forall_mem_cons.mpr ⟨(fun _ => xw_104), List.forall_mem_cons.mpr ⟨(fun _ => xw_105), List.forall_mem_cons.mpr ⟨(fun _ => xw_106), List.forall_mem_cons.mpr ⟨(fun h => absurd h (by decide +kernel)), List.forall_mem_cons.mpr ⟨(fun h => absurd h (by decide +kernel)), List.forall_mem_cons.mpr ⟨(fun _ => xw_45), List.forall_mem_cons.mpr ⟨(fun _ => xw_46), List.forall_mem_cons.mpr ⟨(fun _ => xw_107), fun w h => absurd h List.not_mem_nil⟩⟩⟩⟩⟩⟩⟩⟩⟩⟩⟩⟩⟩) : ∀ w ∈ _, vx_no w = true → w ∈ GB) w h1 h2
theorem ini_5 : Cond.initialized "java/lang/ArithmeticException" ∈ GB := tk_1 (List.mem_of_getElem? (i := 31) (by decide +kernel)) rfl
