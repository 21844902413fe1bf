/-! FrequencyOfficeLaw.setRadii(LFrequencyOffice;III[J)I -/
theorem i59_0 : insAt 59 0 = some (.aload 4, 2, (0, 0, 0, 0), 0) := rfl
theorem s59_0 {c : Nat → List AV → SS → Option Out} {l0 l1 l2 l3 l5 : Option AV} {o : OId} {L2 : List (Nat × AV)} {St : List AV} {S : SS} : ev c 59 0 [l0, l1, l2, l3, some (aR o), l5] L2 St S = ev c 59 2 [l0, l1, l2, l3, some (aR o), l5] L2 (aR o :: St) S := ev_go i59_0 rfl
theorem i59_2 : insAt 59 2 = some (.iconst 0, 1, (0, 0, 0, 0), 0) := rfl
theorem s59_2 {c : Nat → List AV → SS → Option Out} {l0 l1 l2 l3 l4 l5 : Option AV} {L2 : List (Nat × AV)} {St : List AV} {S : SS} : ev c 59 2 [l0, l1, l2, l3, l4, l5] L2 St S = ev c 59 3 [l0, l1, l2, l3, l4, l5] L2 (aI 0 :: St) S := ev_go i59_2 rfl
theorem i59_3 : insAt 59 3 = some (.aload_n 0, 1, (0, 0, 0, 0), 0) := rfl
theorem s59_3 {c : Nat → List AV → SS → Option Out} {l1 l2 l3 l4 l5 : Option AV} {o : OId} {L2 : List (Nat × AV)} {St : List AV} {S : SS} : ev c 59 3 [some (aR o), l1, l2, l3, l4, l5] L2 St S = ev c 59 4 [some (aR o), l1, l2, l3, l4, l5] L2 (aR o :: St) S := ev_go i59_3 rfl
theorem i59_4 : insAt 59 4 = some (.iload_n 1, 1, (0, 0, 0, 0), 0) := rfl
theorem s59_4 {c : Nat → List AV → SS → Option Out} {l0 l2 l3 l4 l5 : Option AV} {x : Int32} {L2 : List (Nat × AV)} {St : List AV} {S : SS} : ev c 59 4 [l0, some (aI x), l2, l3, l4, l5] L2 St S = ev c 59 5 [l0, some (aI x), l2, l3, l4, l5] L2 (aI x :: St) S := ev_go i59_4 rfl
theorem i59_5 : insAt 59 5 = some (.iload_n 2, 1, (0, 0, 0, 0), 0) := rfl
theorem s59_5 {c : Nat → List AV → SS → Option Out} {l0 l1 l3 l4 l5 : Option AV} {x : Int32} {L2 : List (Nat × AV)} {St : List AV} {S : SS} : ev c 59 5 [l0, l1, some (aI x), l3, l4, l5] L2 St S = ev c 59 6 [l0, l1, some (aI x), l3, l4, l5] L2 (aI x :: St) S := ev_go i59_5 rfl
theorem i59_6 : insAt 59 6 = some (.iload_n 3, 1, (0, 0, 0, 0), 0) := rfl
theorem s59_6 {c : Nat → List AV → SS → Option Out} {l0 l1 l2 l4 l5 : Option AV} {x : Int32} {L2 : List (Nat × AV)} {St : List AV} {S : SS} : ev c 59 6 [l0, l1, l2, some (aI x), l4, l5] L2 St S = ev c 59 7 [l0, l1, l2, some (aI x), l4, l5] L2 (aI x :: St) S := ev_go i59_6 rfl
theorem i59_7 : insAt 59 7 = some (.invokevirtual 7, 3, (60, 3, 2, 11), 0) := rfl
theorem s59_7 {c : Nat → List AV → SS → Option Out} {l0 l1 l2 l3 l4 l5 : Option AV} {t0 t1 : AV} {a0 : Int32} {a1 : Int32} {a2 : Int32} {j t : Nat} {S : SS} : ev c 59 7 [l0, l1, l2, l3, l4, l5] [] [aI a2, aI a1, aI a0, aR (11, j, t), t0, t1] S = ckH [(0, 12, 17, 5, 0), (0, 12, 21, 5, 1)] 7 (c 60 [aR (11, j, t), aI a0, aI a1, aI a2] S) (fun v S' => ev c 59 10 [l0, l1, l2, l3, l4, l5] [] (v.toList ++ [t0, t1]) S') (fun a b S' => ev c 59 a ([l0, l1, l2, l3, l4, l5].set b none) [] [] S') := ev_callH rfl (fun E a b h9 => hnd_lt (by decide) h9) i59_7 rfl
theorem i59_10 : insAt 59 10 = some (.i2l, 1, (0, 0, 0, 0), 0) := rfl
theorem s59_10 {c : Nat → List AV → SS → Option Out} {l0 l1 l2 l3 l4 l5 : Option AV} {x : Int32} {L2 : List (Nat × AV)} {St : List AV} {S : SS} : ev c 59 10 [l0, l1, l2, l3, l4, l5] L2 (aI x :: St) S = ev c 59 11 [l0, l1, l2, l3, l4, l5] L2 (aL x.toInt64 :: St) S := ev_go i59_10 rfl
theorem i59_11 : insAt 59 11 = some (.lastore, 1, (0, 0, 0, 0), 0) := rfl
theorem s59_11 {c : Nat → List AV → SS → Option Out} {l0 l1 l2 l3 l4 l5 : Option AV} {x : Int64} {i : Int32} {o : OId} {L2 : List (Nat × AV)} {St : List AV} {S : SS} : ev c 59 11 [l0, l1, l2, l3, l4, l5] L2 (aL x :: aI i :: aR o :: St) S = kJ o i (ev c 59 12 [l0, l1, l2, l3, l4, l5] L2 St (S.1, setV S.2.1 o i.toNatClampNeg (aL x), S.2.2)) := ev_lastore i59_11
theorem i59_12 : insAt 59 12 = some (.goto 11, 3, (0, 0, 0, 0), 0) := rfl
theorem s59_12 {c : Nat → List AV → SS → Option Out} {l0 l1 l2 l3 l4 l5 : Option AV} {L2 : List (Nat × AV)} {St : List AV} {S : SS} : ev c 59 12 [l0, l1, l2, l3, l4, l5] L2 St S = ev c 59 23 [l0, l1, l2, l3, l4, l5] L2 St S := ev_go i59_12 rfl
theorem i59_17 : insAt 59 17 = some (.iconst 1, 1, (0, 0, 0, 0), 0) := rfl
theorem s59_17 {c : Nat → List AV → SS → Option Out} {l0 l1 l2 l3 l4 l5 : Option AV} {L2 : List (Nat × AV)} {St : List AV} {S : SS} : ev c 59 17 [l0, l1, l2, l3, l4, l5] L2 St S = ev c 59 18 [l0, l1, l2, l3, l4, l5] L2 (aI 1 :: St) S := ev_go i59_17 rfl
theorem i59_18 : insAt 59 18 = some (.ireturn, 1, (0, 0, 0, 0), 0) := rfl
theorem s59_18 {c : Nat → List AV → SS → Option Out} {l0 l1 l2 l3 l4 l5 : Option AV} {x : Int32} {L2 : List (Nat × AV)} {St : List AV} {S : SS} : ev c 59 18 [l0, l1, l2, l3, l4, l5] L2 [aI x] S = some (.inl (some (aI x)), S) := ev_end i59_18 rfl
theorem i59_21 : insAt 59 21 = some (.iconst 2, 1, (0, 0, 0, 0), 0) := rfl
theorem s59_21 {c : Nat → List AV → SS → Option Out} {l0 l1 l2 l3 l4 l5 : Option AV} {L2 : List (Nat × AV)} {St : List AV} {S : SS} : ev c 59 21 [l0, l1, l2, l3, l4, l5] L2 St S = ev c 59 22 [l0, l1, l2, l3, l4, l5] L2 (aI 2 :: St) S := ev_go i59_21 rfl
theorem i59_22 : insAt 59 22 = some (.ireturn, 1, (0, 0, 0, 0), 0) := rfl
theorem s59_22 {c : Nat → List AV → SS → Option Out} {l0 l1 l2 l3 l4 l5 : Option AV} {x : Int32} {L2 : List (Nat × AV)} {St : List AV} {S : SS} : ev c 59 22 [l0, l1, l2, l3, l4, l5] L2 [aI x] S = some (.inl (some (aI x)), S) := ev_end i59_22 rfl
theorem i59_23 : insAt 59 23 = some (.iconst 0, 1, (0, 0, 0, 0), 0) := rfl
theorem s59_23 {c : Nat → List AV → SS → Option Out} {l0 l1 l2 l3 l4 l5 : Option AV} {L2 : List (Nat × AV)} {St : List AV} {S : SS} : ev c 59 23 [l0, l1, l2, l3, l4, l5] L2 St S = ev c 59 24 [l0, l1, l2, l3, l4, l5] L2 (aI 0 :: St) S := ev_go i59_23 rfl
theorem i59_24 : insAt 59 24 = some (.ireturn, 1, (0, 0, 0, 0), 0) := rfl
theorem s59_24 {c : Nat → List AV → SS → Option Out} {l0 l1 l2 l3 l4 l5 : Option AV} {x : Int32} {L2 : List (Nat × AV)} {St : List AV} {S : SS} : ev c 59 24 [l0, l1, l2, l3, l4, l5] L2 [aI x] S = some (.inl (some (aI x)), S) := ev_end i59_24 rfl
theorem m59 {d : Nat} {a0 : OId} {a1 : Int32} {a2 : Int32} {a3 : Int32} {a4 : OId} {S : SS} : evm (d + 1) 59 [aR a0, aI a1, aI a2, aI a3, aR a4] S = ev (evm d) 59 0 [some (aR a0), some (aI a1), some (aI a2), some (aI a3), some (aR a4), none] [] [] S := evm_s (n := 6) rfl (Nat.le_of_ble_eq_true rfl) rfl rfl
/-! FrequencyOfficeLaw.license(LFrequencyOffice;III[J)I -/
theorem i64_0 : insAt 64 0 = some (.aload 4, 2, (0, 0, 0, 0), 0) := rfl
theorem s64_0 {c : Nat → List AV → SS → Option Out} {l0 l1 l2 l3 l5 : Option AV} {o : OId} {L2 : List (Nat × AV)} {St : List AV} {S : SS} : ev c 64 0 [l0, l1, l2, l3, some (aR o), l5] L2 St S = ev c 64 2 [l0, l1, l2, l3, some (aR o), l5] L2 (aR o :: St) S := ev_go i64_0 rfl
theorem i64_2 : insAt 64 2 = some (.iconst 0, 1, (0, 0, 0, 0), 0) := rfl
theorem s64_2 {c : Nat → List AV → SS → Option Out} {l0 l1 l2 l3 l4 l5 : Option AV} {L2 : List (Nat × AV)} {St : List AV} {S : SS} : ev c 64 2 [l0, l1, l2, l3, l4, l5] L2 St S = ev c 64 3 [l0, l1, l2, l3, l4, l5] L2 (aI 0 :: St) S := ev_go i64_2 rfl
theorem i64_3 : insAt 64 3 = some (.aload_n 0, 1, (0, 0, 0, 0), 0) := rfl
theorem s64_3 {c : Nat → List AV → SS → Option Out} {l1 l2 l3 l4 l5 : Option AV} {o : OId} {L2 : List (Nat × AV)} {St : List AV} {S : SS} : ev c 64 3 [some (aR o), l1, l2, l3, l4, l5] L2 St S = ev c 64 4 [some (aR o), l1, l2, l3, l4, l5] L2 (aR o :: St) S := ev_go i64_3 rfl
theorem i64_4 : insAt 64 4 = some (.iload_n 1, 1, (0, 0, 0, 0), 0) := rfl
theorem s64_4 {c : Nat → List AV → SS → Option Out} {l0 l2 l3 l4 l5 : Option AV} {x : Int32} {L2 : List (Nat × AV)} {St : List AV} {S : SS} : ev c 64 4 [l0, some (aI x), l2, l3, l4, l5] L2 St S = ev c 64 5 [l0, some (aI x), l2, l3, l4, l5] L2 (aI x :: St) S := ev_go i64_4 rfl
theorem i64_5 : insAt 64 5 = some (.iload_n 2, 1, (0, 0, 0, 0), 0) := rfl
theorem s64_5 {c : Nat → List AV → SS → Option Out} {l0 l1 l3 l4 l5 : Option AV} {x : Int32} {L2 : List (Nat × AV)} {St : List AV} {S : SS} : ev c 64 5 [l0, l1, some (aI x), l3, l4, l5] L2 St S = ev c 64 6 [l0, l1, some (aI x), l3, l4, l5] L2 (aI x :: St) S := ev_go i64_5 rfl
theorem i64_6 : insAt 64 6 = some (.iload_n 3, 1, (0, 0, 0, 0), 0) := rfl
theorem s64_6 {c : Nat → List AV → SS → Option Out} {l0 l1 l2 l4 l5 : Option AV} {x : Int32} {L2 : List (Nat × AV)} {St : List AV} {S : SS} : ev c 64 6 [l0, l1, l2, some (aI x), l4, l5] L2 St S = ev c 64 7 [l0, l1, l2, some (aI x), l4, l5] L2 (aI x :: St) S := ev_go i64_6 rfl
theorem i64_7 : insAt 64 7 = some (.invokevirtual 17, 3, (65, 3, 2, 11), 0) := rfl
theorem s64_7 {c : Nat → List AV → SS → Option Out} {l0 l1 l2 l3 l4 l5 : Option AV} {t0 t1 : AV} {a0 : Int32} {a1 : Int32} {a2 : Int32} {j t : Nat} {S : SS} : ev c 64 7 [l0, l1, l2, l3, l4, l5] [] [aI a2, aI a1, aI a0, aR (11, j, t), t0, t1] S = ckH [(0, 12, 17, 5, 0), (0, 12, 21, 5, 1), (0, 12, 25, 5, 2)] 7 (c 65 [aR (11, j, t), aI a0, aI a1, aI a2] S) (fun v S' => ev c 64 10 [l0, l1, l2, l3, l4, l5] [] (v.toList ++ [t0, t1]) S') (fun a b S' => ev c 64 a ([l0, l1, l2, l3, l4, l5].set b none) [] [] S') := ev_callH rfl (fun E a b h9 => hnd_lt (by decide) h9) i64_7 rfl
theorem i64_10 : insAt 64 10 = some (.i2l, 1, (0, 0, 0, 0), 0) := rfl
theorem s64_10 {c : Nat → List AV → SS → Option Out} {l0 l1 l2 l3 l4 l5 : Option AV} {x : Int32} {L2 : List (Nat × AV)} {St : List AV} {S : SS} : ev c 64 10 [l0, l1, l2, l3, l4, l5] L2 (aI x :: St) S = ev c 64 11 [l0, l1, l2, l3, l4, l5] L2 (aL x.toInt64 :: St) S := ev_go i64_10 rfl
theorem i64_11 : insAt 64 11 = some (.lastore, 1, (0, 0, 0, 0), 0) := rfl
theorem s64_11 {c : Nat → List AV → SS → Option Out} {l0 l1 l2 l3 l4 l5 : Option AV} {x : Int64} {i : Int32} {o : OId} {L2 : List (Nat × AV)} {St : List AV} {S : SS} : ev c 64 11 [l0, l1, l2, l3, l4, l5] L2 (aL x :: aI i :: aR o :: St) S = kJ o i (ev c 64 12 [l0, l1, l2, l3, l4, l5] L2 St (S.1, setV S.2.1 o i.toNatClampNeg (aL x), S.2.2)) := ev_lastore i64_11
theorem i64_12 : insAt 64 12 = some (.goto 15, 3, (0, 0, 0, 0), 0) := rfl
theorem s64_12 {c : Nat → List AV → SS → Option Out} {l0 l1 l2 l3 l4 l5 : Option AV} {L2 : List (Nat × AV)} {St : List AV} {S : SS} : ev c 64 12 [l0, l1, l2, l3, l4, l5] L2 St S = ev c 64 27 [l0, l1, l2, l3, l4, l5] L2 St S := ev_go i64_12 rfl
theorem i64_17 : insAt 64 17 = some (.iconst 1, 1, (0, 0, 0, 0), 0) := rfl
theorem s64_17 {c : Nat → List AV → SS → Option Out} {l0 l1 l2 l3 l4 l5 : Option AV} {L2 : List (Nat × AV)} {St : List AV} {S : SS} : ev c 64 17 [l0, l1, l2, l3, l4, l5] L2 St S = ev c 64 18 [l0, l1, l2, l3, l4, l5] L2 (aI 1 :: St) S := ev_go i64_17 rfl
theorem i64_18 : insAt 64 18 = some (.ireturn, 1, (0, 0, 0, 0), 0) := rfl
theorem s64_18 {c : Nat → List AV → SS → Option Out} {l0 l1 l2 l3 l4 l5 : Option AV} {x : Int32} {L2 : List (Nat × AV)} {St : List AV} {S : SS} : ev c 64 18 [l0, l1, l2, l3, l4, l5] L2 [aI x] S = some (.inl (some (aI x)), S) := ev_end i64_18 rfl
theorem i64_21 : insAt 64 21 = some (.iconst 2, 1, (0, 0, 0, 0), 0) := rfl
theorem s64_21 {c : Nat → List AV → SS → Option Out} {l0 l1 l2 l3 l4 l5 : Option AV} {L2 : List (Nat × AV)} {St : List AV} {S : SS} : ev c 64 21 [l0, l1, l2, l3, l4, l5] L2 St S = ev c 64 22 [l0, l1, l2, l3, l4, l5] L2 (aI 2 :: St) S := ev_go i64_21 rfl
theorem i64_22 : insAt 64 22 = some (.ireturn, 1, (0, 0, 0, 0), 0) := rfl
theorem s64_22 {c : Nat → List AV → SS → Option Out} {l0 l1 l2 l3 l4 l5 : Option AV} {x : Int32} {L2 : List (Nat × AV)} {St : List AV} {S : SS} : ev c 64 22 [l0, l1, l2, l3, l4, l5] L2 [aI x] S = some (.inl (some (aI x)), S) := ev_end i64_22 rfl
theorem i64_25 : insAt 64 25 = some (.iconst 3, 1, (0, 0, 0, 0), 0) := rfl
theorem s64_25 {c : Nat → List AV → SS → Option Out} {l0 l1 l2 l3 l4 l5 : Option AV} {L2 : List (Nat × AV)} {St : List AV} {S : SS} : ev c 64 25 [l0, l1, l2, l3, l4, l5] L2 St S = ev c 64 26 [l0, l1, l2, l3, l4, l5] L2 (aI 3 :: St) S := ev_go i64_25 rfl
theorem i64_26 : insAt 64 26 = some (.ireturn, 1, (0, 0, 0, 0), 0) := rfl
theorem s64_26 {c : Nat → List AV → SS → Option Out} {l0 l1 l2 l3 l4 l5 : Option AV} {x : Int32} {L2 : List (Nat × AV)} {St : List AV} {S : SS} : ev c 64 26 [l0, l1, l2, l3, l4, l5] L2 [aI x] S = some (.inl (some (aI x)), S) := ev_end i64_26 rfl
theorem i64_27 : insAt 64 27 = some (.iconst 0, 1, (0, 0, 0, 0), 0) := rfl
theorem s64_27 {c : Nat → List AV → SS → Option Out} {l0 l1 l2 l3 l4 l5 : Option AV} {L2 : List (Nat × AV)} {St : List AV} {S : SS} : ev c 64 27 [l0, l1, l2, l3, l4, l5] L2 St S = ev c 64 28 [l0, l1, l2, l3, l4, l5] L2 (aI 0 :: St) S := ev_go i64_27 rfl
theorem i64_28 : insAt 64 28 = some (.ireturn, 1, (0, 0, 0, 0), 0) := rfl
theorem s64_28 {c : Nat → List AV → SS → Option Out} {l0 l1 l2 l3 l4 l5 : Option AV} {x : Int32} {L2 : List (Nat × AV)} {St : List AV} {S : SS} : ev c 64 28 [l0, l1, l2, l3, l4, l5] L2 [aI x] S = some (.inl (some (aI x)), S) := ev_end i64_28 rfl
theorem m64 {d : Nat} {a0 : OId} {a1 : Int32} {a2 : Int32} {a3 : Int32} {a4 : OId} {S : SS} : evm (d + 1) 64 [aR a0, aI a1, aI a2, aI a3, aR a4] S = ev (evm d) 64 0 [some (aR a0), some (aI a1), some (aI a2), some (aI a3), some (aR a4), none] [] [] S := evm_s (n := 6) rfl (Nat.le_of_ble_eq_true rfl) rfl rfl
/-! FrequencyOfficeLaw.startTrial(LFrequencyOffice;III[J)I -/
theorem i86_0 : insAt 86 0 = some (.aload 4, 2, (0, 0, 0, 0), 0) := rfl
theorem s86_0 {c : Nat → List AV → SS → Option Out} {l0 l1 l2 l3 l5 : Option AV} {o : OId} {L2 : List (Nat × AV)} {St : List AV} {S : SS} : ev c 86 0 [l0, l1, l2, l3, some (aR o), l5] L2 St S = ev c 86 2 [l0, l1, l2, l3, some (aR o), l5] L2 (aR o :: St) S := ev_go i86_0 rfl
theorem i86_2 : insAt 86 2 = some (.iconst 0, 1, (0, 0, 0, 0), 0) := rfl
theorem s86_2 {c : Nat → List AV → SS → Option Out} {l0 l1 l2 l3 l4 l5 : Option AV} {L2 : List (Nat × AV)} {St : List AV} {S : SS} : ev c 86 2 [l0, l1, l2, l3, l4, l5] L2 St S = ev c 86 3 [l0, l1, l2, l3, l4, l5] L2 (aI 0 :: St) S := ev_go i86_2 rfl
theorem i86_3 : insAt 86 3 = some (.aload_n 0, 1, (0, 0, 0, 0), 0) := rfl
theorem s86_3 {c : Nat → List AV → SS → Option Out} {l1 l2 l3 l4 l5 : Option AV} {o : OId} {L2 : List (Nat × AV)} {St : List AV} {S : SS} : ev c 86 3 [some (aR o), l1, l2, l3, l4, l5] L2 St S = ev c 86 4 [some (aR o), l1, l2, l3, l4, l5] L2 (aR o :: St) S := ev_go i86_3 rfl
theorem i86_4 : insAt 86 4 = some (.iload_n 1, 1, (0, 0, 0, 0), 0) := rfl
theorem s86_4 {c : Nat → List AV → SS → Option Out} {l0 l2 l3 l4 l5 : Option AV} {x : Int32} {L2 : List (Nat × AV)} {St : List AV} {S : SS} : ev c 86 4 [l0, some (aI x), l2, l3, l4, l5] L2 St S = ev c 86 5 [l0, some (aI x), l2, l3, l4, l5] L2 (aI x :: St) S := ev_go i86_4 rfl
theorem i86_5 : insAt 86 5 = some (.iload_n 2, 1, (0, 0, 0, 0), 0) := rfl
theorem s86_5 {c : Nat → List AV → SS → Option Out} {l0 l1 l3 l4 l5 : Option AV} {x : Int32} {L2 : List (Nat × AV)} {St : List AV} {S : SS} : ev c 86 5 [l0, l1, some (aI x), l3, l4, l5] L2 St S = ev c 86 6 [l0, l1, some (aI x), l3, l4, l5] L2 (aI x :: St) S := ev_go i86_5 rfl
theorem i86_6 : insAt 86 6 = some (.iload_n 3, 1, (0, 0, 0, 0), 0) := rfl
theorem s86_6 {c : Nat → List AV → SS → Option Out} {l0 l1 l2 l4 l5 : Option AV} {x : Int32} {L2 : List (Nat × AV)} {St : List AV} {S : SS} : ev c 86 6 [l0, l1, l2, some (aI x), l4, l5] L2 St S = ev c 86 7 [l0, l1, l2, some (aI x), l4, l5] L2 (aI x :: St) S := ev_go i86_6 rfl
theorem i86_7 : insAt 86 7 = some (.invokevirtual 22, 3, (87, 3, 2, 11), 0) := rfl
theorem s86_7 {c : Nat → List AV → SS → Option Out} {l0 l1 l2 l3 l4 l5 : Option AV} {t0 t1 : AV} {a0 : Int32} {a1 : Int32} {a2 : Int32} {j t : Nat} {S : SS} : ev c 86 7 [l0, l1, l2, l3, l4, l5] [] [aI a2, aI a1, aI a0, aR (11, j, t), t0, t1] S = ckH [(0, 12, 17, 5, 0), (0, 12, 21, 5, 1), (0, 12, 25, 5, 2)] 7 (c 87 [aR (11, j, t), aI a0, aI a1, aI a2] S) (fun v S' => ev c 86 10 [l0, l1, l2, l3, l4, l5] [] (v.toList ++ [t0, t1]) S') (fun a b S' => ev c 86 a ([l0, l1, l2, l3, l4, l5].set b none) [] [] S') := ev_callH rfl (fun E a b h9 => hnd_lt (by decide) h9) i86_7 rfl
theorem i86_10 : insAt 86 10 = some (.i2l, 1, (0, 0, 0, 0), 0) := rfl
theorem s86_10 {c : Nat → List AV → SS → Option Out} {l0 l1 l2 l3 l4 l5 : Option AV} {x : Int32} {L2 : List (Nat × AV)} {St : List AV} {S : SS} : ev c 86 10 [l0, l1, l2, l3, l4, l5] L2 (aI x :: St) S = ev c 86 11 [l0, l1, l2, l3, l4, l5] L2 (aL x.toInt64 :: St) S := ev_go i86_10 rfl
theorem i86_11 : insAt 86 11 = some (.lastore, 1, (0, 0, 0, 0), 0) := rfl
theorem s86_11 {c : Nat → List AV → SS → Option Out} {l0 l1 l2 l3 l4 l5 : Option AV} {x : Int64} {i : Int32} {o : OId} {L2 : List (Nat × AV)} {St : List AV} {S : SS} : ev c 86 11 [l0, l1, l2, l3, l4, l5] L2 (aL x :: aI i :: aR o :: St) S = kJ o i (ev c 86 12 [l0, l1, l2, l3, l4, l5] L2 St (S.1, setV S.2.1 o i.toNatClampNeg (aL x), S.2.2)) := ev_lastore i86_11
theorem i86_12 : insAt 86 12 = some (.goto 15, 3, (0, 0, 0, 0), 0) := rfl
theorem s86_12 {c : Nat → List AV → SS → Option Out} {l0 l1 l2 l3 l4 l5 : Option AV} {L2 : List (Nat × AV)} {St : List AV} {S : SS} : ev c 86 12 [l0, l1, l2, l3, l4, l5] L2 St S = ev c 86 27 [l0, l1, l2, l3, l4, l5] L2 St S := ev_go i86_12 rfl
theorem i86_17 : insAt 86 17 = some (.iconst 1, 1, (0, 0, 0, 0), 0) := rfl
theorem s86_17 {c : Nat → List AV → SS → Option Out} {l0 l1 l2 l3 l4 l5 : Option AV} {L2 : List (Nat × AV)} {St : List AV} {S : SS} : ev c 86 17 [l0, l1, l2, l3, l4, l5] L2 St S = ev c 86 18 [l0, l1, l2, l3, l4, l5] L2 (aI 1 :: St) S := ev_go i86_17 rfl
theorem i86_18 : insAt 86 18 = some (.ireturn, 1, (0, 0, 0, 0), 0) := rfl
theorem s86_18 {c : Nat → List AV → SS → Option Out} {l0 l1 l2 l3 l4 l5 : Option AV} {x : Int32} {L2 : List (Nat × AV)} {St : List AV} {S : SS} : ev c 86 18 [l0, l1, l2, l3, l4, l5] L2 [aI x] S = some (.inl (some (aI x)), S) := ev_end i86_18 rfl
theorem i86_21 : insAt 86 21 = some (.iconst 2, 1, (0, 0, 0, 0), 0) := rfl
theorem s86_21 {c : Nat → List AV → SS → Option Out} {l0 l1 l2 l3 l4 l5 : Option AV} {L2 : List (Nat × AV)} {St : List AV} {S : SS} : ev c 86 21 [l0, l1, l2, l3, l4, l5] L2 St S = ev c 86 22 [l0, l1, l2, l3, l4, l5] L2 (aI 2 :: St) S := ev_go i86_21 rfl
theorem i86_22 : insAt 86 22 = some (.ireturn, 1, (0, 0, 0, 0), 0) := rfl
theorem s86_22 {c : Nat → List AV → SS → Option Out} {l0 l1 l2 l3 l4 l5 : Option AV} {x : Int32} {L2 : List (Nat × AV)} {St : List AV} {S : SS} : ev c 86 22 [l0, l1, l2, l3, l4, l5] L2 [aI x] S = some (.inl (some (aI x)), S) := ev_end i86_22 rfl
theorem i86_25 : insAt 86 25 = some (.iconst 3, 1, (0, 0, 0, 0), 0) := rfl
theorem s86_25 {c : Nat → List AV → SS → Option Out} {l0 l1 l2 l3 l4 l5 : Option AV} {L2 : List (Nat × AV)} {St : List AV} {S : SS} : ev c 86 25 [l0, l1, l2, l3, l4, l5] L2 St S = ev c 86 26 [l0, l1, l2, l3, l4, l5] L2 (aI 3 :: St) S := ev_go i86_25 rfl
theorem i86_26 : insAt 86 26 = some (.ireturn, 1, (0, 0, 0, 0), 0) := rfl
theorem s86_26 {c : Nat → List AV → SS → Option Out} {l0 l1 l2 l3 l4 l5 : Option AV} {x : Int32} {L2 : List (Nat × AV)} {St : List AV} {S : SS} : ev c 86 26 [l0, l1, l2, l3, l4, l5] L2 [aI x] S = some (.inl (some (aI x)), S) := ev_end i86_26 rfl
theorem i86_27 : insAt 86 27 = some (.iconst 0, 1, (0, 0, 0, 0), 0) := rfl
theorem s86_27 {c : Nat → List AV → SS → Option Out} {l0 l1 l2 l3 l4 l5 : Option AV} {L2 : List (Nat × AV)} {St : List AV} {S : SS} : ev c 86 27 [l0, l1, l2, l3, l4, l5] L2 St S = ev c 86 28 [l0, l1, l2, l3, l4, l5] L2 (aI 0 :: St) S := ev_go i86_27 rfl
theorem i86_28 : insAt 86 28 = some (.ireturn, 1, (0, 0, 0, 0), 0) := rfl
theorem s86_28 {c : Nat → List AV → SS → Option Out} {l0 l1 l2 l3 l4 l5 : Option AV} {x : Int32} {L2 : List (Nat × AV)} {St : List AV} {S : SS} : ev c 86 28 [l0, l1, l2, l3, l4, l5] L2 [aI x] S = some (.inl (some (aI x)), S) := ev_end i86_28 rfl
theorem m86 {d : Nat} {a0 : OId} {a1 : Int32} {a2 : Int32} {a3 : Int32} {a4 : OId} {S : SS} : evm (d + 1) 86 [aR a0, aI a1, aI a2, aI a3, aR a4] S = ev (evm d) 86 0 [some (aR a0), some (aI a1), some (aI a2), some (aI a3), some (aR a4), none] [] [] S := evm_s (n := 6) rfl (Nat.le_of_ble_eq_true rfl) rfl rfl
/-! FrequencyOfficeLaw.confirm(LFrequencyOffice;II[J)I -/
theorem i91_0 : insAt 91 0 = some (.aload_n 3, 1, (0, 0, 0, 0), 0) := rfl
theorem s91_0 {c : Nat → List AV → SS → Option Out} {l0 l1 l2 l4 : Option AV} {o : OId} {L2 : List (Nat × AV)} {St : List AV} {S : SS} : ev c 91 0 [l0, l1, l2, some (aR o), l4] L2 St S = ev c 91 1 [l0, l1, l2, some (aR o), l4] L2 (aR o :: St) S := ev_go i91_0 rfl
theorem i91_1 : insAt 91 1 = some (.iconst 0, 1, (0, 0, 0, 0), 0) := rfl
theorem s91_1 {c : Nat → List AV → SS → Option Out} {l0 l1 l2 l3 l4 : Option AV} {L2 : List (Nat × AV)} {St : List AV} {S : SS} : ev c 91 1 [l0, l1, l2, l3, l4] L2 St S = ev c 91 2 [l0, l1, l2, l3, l4] L2 (aI 0 :: St) S := ev_go i91_1 rfl
theorem i91_2 : insAt 91 2 = some (.aload_n 0, 1, (0, 0, 0, 0), 0) := rfl
theorem s91_2 {c : Nat → List AV → SS → Option Out} {l1 l2 l3 l4 : Option AV} {o : OId} {L2 : List (Nat × AV)} {St : List AV} {S : SS} : ev c 91 2 [some (aR o), l1, l2, l3, l4] L2 St S = ev c 91 3 [some (aR o), l1, l2, l3, l4] L2 (aR o :: St) S := ev_go i91_2 rfl
theorem i91_3 : insAt 91 3 = some (.iload_n 1, 1, (0, 0, 0, 0), 0) := rfl
theorem s91_3 {c : Nat → List AV → SS → Option Out} {l0 l2 l3 l4 : Option AV} {x : Int32} {L2 : List (Nat × AV)} {St : List AV} {S : SS} : ev c 91 3 [l0, some (aI x), l2, l3, l4] L2 St S = ev c 91 4 [l0, some (aI x), l2, l3, l4] L2 (aI x :: St) S := ev_go i91_3 rfl
theorem i91_4 : insAt 91 4 = some (.iload_n 2, 1, (0, 0, 0, 0), 0) := rfl
theorem s91_4 {c : Nat → List AV → SS → Option Out} {l0 l1 l3 l4 : Option AV} {x : Int32} {L2 : List (Nat × AV)} {St : List AV} {S : SS} : ev c 91 4 [l0, l1, some (aI x), l3, l4] L2 St S = ev c 91 5 [l0, l1, some (aI x), l3, l4] L2 (aI x :: St) S := ev_go i91_4 rfl
theorem i91_5 : insAt 91 5 = some (.invokevirtual 25, 3, (92, 2, 2, 11), 0) := rfl
theorem s91_5 {c : Nat → List AV → SS → Option Out} {l0 l1 l2 l3 l4 : Option AV} {t0 t1 : AV} {a0 : Int32} {a1 : Int32} {j t : Nat} {S : SS} : ev c 91 5 [l0, l1, l2, l3, l4] [] [aI a1, aI a0, aR (11, j, t), t0, t1] S = ckH [(0, 10, 15, 4, 3), (0, 10, 19, 4, 0), (0, 10, 23, 4, 1)] 5 (c 92 [aR (11, j, t), aI a0, aI a1] S) (fun v S' => ev c 91 8 [l0, l1, l2, l3, l4] [] (v.toList ++ [t0, t1]) S') (fun a b S' => ev c 91 a ([l0, l1, l2, l3, l4].set b none) [] [] S') := ev_callH rfl (fun E a b h9 => hnd_lt (by decide) h9) i91_5 rfl
theorem i91_8 : insAt 91 8 = some (.i2l, 1, (0, 0, 0, 0), 0) := rfl
theorem s91_8 {c : Nat → List AV → SS → Option Out} {l0 l1 l2 l3 l4 : Option AV} {x : Int32} {L2 : List (Nat × AV)} {St : List AV} {S : SS} : ev c 91 8 [l0, l1, l2, l3, l4] L2 (aI x :: St) S = ev c 91 9 [l0, l1, l2, l3, l4] L2 (aL x.toInt64 :: St) S := ev_go i91_8 rfl
theorem i91_9 : insAt 91 9 = some (.lastore, 1, (0, 0, 0, 0), 0) := rfl
theorem s91_9 {c : Nat → List AV → SS → Option Out} {l0 l1 l2 l3 l4 : Option AV} {x : Int64} {i : Int32} {o : OId} {L2 : List (Nat × AV)} {St : List AV} {S : SS} : ev c 91 9 [l0, l1, l2, l3, l4] L2 (aL x :: aI i :: aR o :: St) S = kJ o i (ev c 91 10 [l0, l1, l2, l3, l4] L2 St (S.1, setV S.2.1 o i.toNatClampNeg (aL x), S.2.2)) := ev_lastore i91_9
theorem i91_10 : insAt 91 10 = some (.goto 15, 3, (0, 0, 0, 0), 0) := rfl
theorem s91_10 {c : Nat → List AV → SS → Option Out} {l0 l1 l2 l3 l4 : Option AV} {L2 : List (Nat × AV)} {St : List AV} {S : SS} : ev c 91 10 [l0, l1, l2, l3, l4] L2 St S = ev c 91 25 [l0, l1, l2, l3, l4] L2 St S := ev_go i91_10 rfl
theorem i91_15 : insAt 91 15 = some (.iconst 1, 1, (0, 0, 0, 0), 0) := rfl
theorem s91_15 {c : Nat → List AV → SS → Option Out} {l0 l1 l2 l3 l4 : Option AV} {L2 : List (Nat × AV)} {St : List AV} {S : SS} : ev c 91 15 [l0, l1, l2, l3, l4] L2 St S = ev c 91 16 [l0, l1, l2, l3, l4] L2 (aI 1 :: St) S := ev_go i91_15 rfl
theorem i91_16 : insAt 91 16 = some (.ireturn, 1, (0, 0, 0, 0), 0) := rfl
theorem s91_16 {c : Nat → List AV → SS → Option Out} {l0 l1 l2 l3 l4 : Option AV} {x : Int32} {L2 : List (Nat × AV)} {St : List AV} {S : SS} : ev c 91 16 [l0, l1, l2, l3, l4] L2 [aI x] S = some (.inl (some (aI x)), S) := ev_end i91_16 rfl
theorem i91_19 : insAt 91 19 = some (.iconst 2, 1, (0, 0, 0, 0), 0) := rfl
theorem s91_19 {c : Nat → List AV → SS → Option Out} {l0 l1 l2 l3 l4 : Option AV} {L2 : List (Nat × AV)} {St : List AV} {S : SS} : ev c 91 19 [l0, l1, l2, l3, l4] L2 St S = ev c 91 20 [l0, l1, l2, l3, l4] L2 (aI 2 :: St) S := ev_go i91_19 rfl
theorem i91_20 : insAt 91 20 = some (.ireturn, 1, (0, 0, 0, 0), 0) := rfl
theorem s91_20 {c : Nat → List AV → SS → Option Out} {l0 l1 l2 l3 l4 : Option AV} {x : Int32} {L2 : List (Nat × AV)} {St : List AV} {S : SS} : ev c 91 20 [l0, l1, l2, l3, l4] L2 [aI x] S = some (.inl (some (aI x)), S) := ev_end i91_20 rfl
theorem i91_23 : insAt 91 23 = some (.iconst 3, 1, (0, 0, 0, 0), 0) := rfl
theorem s91_23 {c : Nat → List AV → SS → Option Out} {l0 l1 l2 l3 l4 : Option AV} {L2 : List (Nat × AV)} {St : List AV} {S : SS} : ev c 91 23 [l0, l1, l2, l3, l4] L2 St S = ev c 91 24 [l0, l1, l2, l3, l4] L2 (aI 3 :: St) S := ev_go i91_23 rfl
theorem i91_24 : insAt 91 24 = some (.ireturn, 1, (0, 0, 0, 0), 0) := rfl
theorem s91_24 {c : Nat → List AV → SS → Option Out} {l0 l1 l2 l3 l4 : Option AV} {x : Int32} {L2 : List (Nat × AV)} {St : List AV} {S : SS} : ev c 91 24 [l0, l1, l2, l3, l4] L2 [aI x] S = some (.inl (some (aI x)), S) := ev_end i91_24 rfl
theorem i91_25 : insAt 91 25 = some (.iconst 0, 1, (0, 0, 0, 0), 0) := rfl
theorem s91_25 {c : Nat → List AV → SS → Option Out} {l0 l1 l2 l3 l4 : Option AV} {L2 : List (Nat × AV)} {St : List AV} {S : SS} : ev c 91 25 [l0, l1, l2, l3, l4] L2 St S = ev c 91 26 [l0, l1, l2, l3, l4] L2 (aI 0 :: St) S := ev_go i91_25 rfl
theorem i91_26 : insAt 91 26 = some (.ireturn, 1, (0, 0, 0, 0), 0) := rfl
theorem s91_26 {c : Nat → List AV → SS → Option Out} {l0 l1 l2 l3 l4 : Option AV} {x : Int32} {L2 : List (Nat × AV)} {St : List AV} {S : SS} : ev c 91 26 [l0, l1, l2, l3, l4] L2 [aI x] S = some (.inl (some (aI x)), S) := ev_end i91_26 rfl
theorem m91 {d : Nat} {a0 : OId} {a1 : Int32} {a2 : Int32} {a3 : OId} {S : SS} : evm (d + 1) 91 [aR a0, aI a1, aI a2, aR a3] S = ev (evm d) 91 0 [some (aR a0), some (aI a1), some (aI a2), some (aR a3), none] [] [] S := evm_s (n := 5) rfl (Nat.le_of_ble_eq_true rfl) rfl rfl
/-! FrequencyOfficeLaw.renew(LFrequencyOffice;II[J)I -/
theorem i94_0 : insAt 94 0 = some (.aload_n 3, 1, (0, 0, 0, 0), 0) := rfl
theorem s94_0 {c : Nat → List AV → SS → Option Out} {l0 l1 l2 l4 : Option AV} {o : OId} {L2 : List (Nat × AV)} {St : List AV} {S : SS} : ev c 94 0 [l0, l1, l2, some (aR o), l4] L2 St S = ev c 94 1 [l0, l1, l2, some (aR o), l4] L2 (aR o :: St) S := ev_go i94_0 rfl
theorem i94_1 : insAt 94 1 = some (.iconst 0, 1, (0, 0, 0, 0), 0) := rfl
theorem s94_1 {c : Nat → List AV → SS → Option Out} {l0 l1 l2 l3 l4 : Option AV} {L2 : List (Nat × AV)} {St : List AV} {S : SS} : ev c 94 1 [l0, l1, l2, l3, l4] L2 St S = ev c 94 2 [l0, l1, l2, l3, l4] L2 (aI 0 :: St) S := ev_go i94_1 rfl
theorem i94_2 : insAt 94 2 = some (.aload_n 0, 1, (0, 0, 0, 0), 0) := rfl
theorem s94_2 {c : Nat → List AV → SS → Option Out} {l1 l2 l3 l4 : Option AV} {o : OId} {L2 : List (Nat × AV)} {St : List AV} {S : SS} : ev c 94 2 [some (aR o), l1, l2, l3, l4] L2 St S = ev c 94 3 [some (aR o), l1, l2, l3, l4] L2 (aR o :: St) S := ev_go i94_2 rfl
theorem i94_3 : insAt 94 3 = some (.iload_n 1, 1, (0, 0, 0, 0), 0) := rfl
theorem s94_3 {c : Nat → List AV → SS → Option Out} {l0 l2 l3 l4 : Option AV} {x : Int32} {L2 : List (Nat × AV)} {St : List AV} {S : SS} : ev c 94 3 [l0, some (aI x), l2, l3, l4] L2 St S = ev c 94 4 [l0, some (aI x), l2, l3, l4] L2 (aI x :: St) S := ev_go i94_3 rfl
theorem i94_4 : insAt 94 4 = some (.iload_n 2, 1, (0, 0, 0, 0), 0) := rfl
theorem s94_4 {c : Nat → List AV → SS → Option Out} {l0 l1 l3 l4 : Option AV} {x : Int32} {L2 : List (Nat × AV)} {St : List AV} {S : SS} : ev c 94 4 [l0, l1, some (aI x), l3, l4] L2 St S = ev c 94 5 [l0, l1, some (aI x), l3, l4] L2 (aI x :: St) S := ev_go i94_4 rfl
theorem i94_5 : insAt 94 5 = some (.invokevirtual 31, 3, (95, 2, 2, 11), 0) := rfl
theorem s94_5 {c : Nat → List AV → SS → Option Out} {l0 l1 l2 l3 l4 : Option AV} {t0 t1 : AV} {a0 : Int32} {a1 : Int32} {j t : Nat} {S : SS} : ev c 94 5 [l0, l1, l2, l3, l4] [] [aI a1, aI a0, aR (11, j, t), t0, t1] S = ckH [(0, 10, 15, 4, 3), (0, 10, 19, 4, 0), (0, 10, 23, 4, 1)] 5 (c 95 [aR (11, j, t), aI a0, aI a1] S) (fun v S' => ev c 94 8 [l0, l1, l2, l3, l4] [] (v.toList ++ [t0, t1]) S') (fun a b S' => ev c 94 a ([l0, l1, l2, l3, l4].set b none) [] [] S') := ev_callH rfl (fun E a b h9 => hnd_lt (by decide) h9) i94_5 rfl
theorem i94_8 : insAt 94 8 = some (.i2l, 1, (0, 0, 0, 0), 0) := rfl
theorem s94_8 {c : Nat → List AV → SS → Option Out} {l0 l1 l2 l3 l4 : Option AV} {x : Int32} {L2 : List (Nat × AV)} {St : List AV} {S : SS} : ev c 94 8 [l0, l1, l2, l3, l4] L2 (aI x :: St) S = ev c 94 9 [l0, l1, l2, l3, l4] L2 (aL x.toInt64 :: St) S := ev_go i94_8 rfl
theorem i94_9 : insAt 94 9 = some (.lastore, 1, (0, 0, 0, 0), 0) := rfl
theorem s94_9 {c : Nat → List AV → SS → Option Out} {l0 l1 l2 l3 l4 : Option AV} {x : Int64} {i : Int32} {o : OId} {L2 : List (Nat × AV)} {St : List AV} {S : SS} : ev c 94 9 [l0, l1, l2, l3, l4] L2 (aL x :: aI i :: aR o :: St) S = kJ o i (ev c 94 10 [l0, l1, l2, l3, l4] L2 St (S.1, setV S.2.1 o i.toNatClampNeg (aL x), S.2.2)) := ev_lastore i94_9
theorem i94_10 : insAt 94 10 = some (.goto 15, 3, (0, 0, 0, 0), 0) := rfl
theorem s94_10 {c : Nat → List AV → SS → Option Out} {l0 l1 l2 l3 l4 : Option AV} {L2 : List (Nat × AV)} {St : List AV} {S : SS} : ev c 94 10 [l0, l1, l2, l3, l4] L2 St S = ev c 94 25 [l0, l1, l2, l3, l4] L2 St S := ev_go i94_10 rfl
theorem i94_15 : insAt 94 15 = some (.iconst 1, 1, (0, 0, 0, 0), 0) := rfl
theorem s94_15 {c : Nat → List AV → SS → Option Out} {l0 l1 l2 l3 l4 : Option AV} {L2 : List (Nat × AV)} {St : List AV} {S : SS} : ev c 94 15 [l0, l1, l2, l3, l4] L2 St S = ev c 94 16 [l0, l1, l2, l3, l4] L2 (aI 1 :: St) S := ev_go i94_15 rfl
theorem i94_16 : insAt 94 16 = some (.ireturn, 1, (0, 0, 0, 0), 0) := rfl
theorem s94_16 {c : Nat → List AV → SS → Option Out} {l0 l1 l2 l3 l4 : Option AV} {x : Int32} {L2 : List (Nat × AV)} {St : List AV} {S : SS} : ev c 94 16 [l0, l1, l2, l3, l4] L2 [aI x] S = some (.inl (some (aI x)), S) := ev_end i94_16 rfl
theorem i94_19 : insAt 94 19 = some (.iconst 2, 1, (0, 0, 0, 0), 0) := rfl
theorem s94_19 {c : Nat → List AV → SS → Option Out} {l0 l1 l2 l3 l4 : Option AV} {L2 : List (Nat × AV)} {St : List AV} {S : SS} : ev c 94 19 [l0, l1, l2, l3, l4] L2 St S = ev c 94 20 [l0, l1, l2, l3, l4] L2 (aI 2 :: St) S := ev_go i94_19 rfl
theorem i94_20 : insAt 94 20 = some (.ireturn, 1, (0, 0, 0, 0), 0) := rfl
theorem s94_20 {c : Nat → List AV → SS → Option Out} {l0 l1 l2 l3 l4 : Option AV} {x : Int32} {L2 : List (Nat × AV)} {St : List AV} {S : SS} : ev c 94 20 [l0, l1, l2, l3, l4] L2 [aI x] S = some (.inl (some (aI x)), S) := ev_end i94_20 rfl
theorem i94_23 : insAt 94 23 = some (.iconst 3, 1, (0, 0, 0, 0), 0) := rfl
theorem s94_23 {c : Nat → List AV → SS → Option Out} {l0 l1 l2 l3 l4 : Option AV} {L2 : List (Nat × AV)} {St : List AV} {S : SS} : ev c 94 23 [l0, l1, l2, l3, l4] L2 St S = ev c 94 24 [l0, l1, l2, l3, l4] L2 (aI 3 :: St) S := ev_go i94_23 rfl
theorem i94_24 : insAt 94 24 = some (.ireturn, 1, (0, 0, 0, 0), 0) := rfl
theorem s94_24 {c : Nat → List AV → SS → Option Out} {l0 l1 l2 l3 l4 : Option AV} {x : Int32} {L2 : List (Nat × AV)} {St : List AV} {S : SS} : ev c 94 24 [l0, l1, l2, l3, l4] L2 [aI x] S = some (.inl (some (aI x)), S) := ev_end i94_24 rfl
theorem i94_25 : insAt 94 25 = some (.iconst 0, 1, (0, 0, 0, 0), 0) := rfl
theorem s94_25 {c : Nat → List AV → SS → Option Out} {l0 l1 l2 l3 l4 : Option AV} {L2 : List (Nat × AV)} {St : List AV} {S : SS} : ev c 94 25 [l0, l1, l2, l3, l4] L2 St S = ev c 94 26 [l0, l1, l2, l3, l4] L2 (aI 0 :: St) S := ev_go i94_25 rfl
theorem i94_26 : insAt 94 26 = some (.ireturn, 1, (0, 0, 0, 0), 0) := rfl
theorem s94_26 {c : Nat → List AV → SS → Option Out} {l0 l1 l2 l3 l4 : Option AV} {x : Int32} {L2 : List (Nat × AV)} {St : List AV} {S : SS} : ev c 94 26 [l0, l1, l2, l3, l4] L2 [aI x] S = some (.inl (some (aI x)), S) := ev_end i94_26 rfl
theorem m94 {d : Nat} {a0 : OId} {a1 : Int32} {a2 : Int32} {a3 : OId} {S : SS} : evm (d + 1) 94 [aR a0, aI a1, aI a2, aR a3] S = ev (evm d) 94 0 [some (aR a0), some (aI a1), some (aI a2), some (aR a3), none] [] [] S := evm_s (n := 5) rfl (Nat.le_of_ble_eq_true rfl) rfl rfl
/-! FrequencyOfficeLaw.close(LFrequencyOffice;I[J)I -/
theorem i97_0 : insAt 97 0 = some (.aload_n 2, 1, (0, 0, 0, 0), 0) := rfl
theorem s97_0 {c : Nat → List AV → SS → Option Out} {l0 l1 l3 : Option AV} {o : OId} {L2 : List (Nat × AV)} {St : List AV} {S : SS} : ev c 97 0 [l0, l1, some (aR o), l3] L2 St S = ev c 97 1 [l0, l1, some (aR o), l3] L2 (aR o :: St) S := ev_go i97_0 rfl
theorem i97_1 : insAt 97 1 = some (.iconst 0, 1, (0, 0, 0, 0), 0) := rfl
theorem s97_1 {c : Nat → List AV → SS → Option Out} {l0 l1 l2 l3 : Option AV} {L2 : List (Nat × AV)} {St : List AV} {S : SS} : ev c 97 1 [l0, l1, l2, l3] L2 St S = ev c 97 2 [l0, l1, l2, l3] L2 (aI 0 :: St) S := ev_go i97_1 rfl
theorem i97_2 : insAt 97 2 = some (.aload_n 0, 1, (0, 0, 0, 0), 0) := rfl
theorem s97_2 {c : Nat → List AV → SS → Option Out} {l1 l2 l3 : Option AV} {o : OId} {L2 : List (Nat × AV)} {St : List AV} {S : SS} : ev c 97 2 [some (aR o), l1, l2, l3] L2 St S = ev c 97 3 [some (aR o), l1, l2, l3] L2 (aR o :: St) S := ev_go i97_2 rfl
theorem i97_3 : insAt 97 3 = some (.iload_n 1, 1, (0, 0, 0, 0), 0) := rfl
theorem s97_3 {c : Nat → List AV → SS → Option Out} {l0 l2 l3 : Option AV} {x : Int32} {L2 : List (Nat × AV)} {St : List AV} {S : SS} : ev c 97 3 [l0, some (aI x), l2, l3] L2 St S = ev c 97 4 [l0, some (aI x), l2, l3] L2 (aI x :: St) S := ev_go i97_3 rfl
theorem i97_4 : insAt 97 4 = some (.invokevirtual 34, 3, (98, 1, 2, 11), 0) := rfl
theorem s97_4 {c : Nat → List AV → SS → Option Out} {l0 l1 l2 l3 : Option AV} {t0 t1 : AV} {a0 : Int32} {j t : Nat} {S : SS} : ev c 97 4 [l0, l1, l2, l3] [] [aI a0, aR (11, j, t), t0, t1] S = ckH [(0, 9, 13, 3, 3)] 4 (c 98 [aR (11, j, t), aI a0] S) (fun v S' => ev c 97 7 [l0, l1, l2, l3] [] (v.toList ++ [t0, t1]) S') (fun a b S' => ev c 97 a ([l0, l1, l2, l3].set b none) [] [] S') := ev_callH rfl (fun E a b h9 => hnd_lt (by decide) h9) i97_4 rfl
theorem i97_7 : insAt 97 7 = some (.i2l, 1, (0, 0, 0, 0), 0) := rfl
theorem s97_7 {c : Nat → List AV → SS → Option Out} {l0 l1 l2 l3 : Option AV} {x : Int32} {L2 : List (Nat × AV)} {St : List AV} {S : SS} : ev c 97 7 [l0, l1, l2, l3] L2 (aI x :: St) S = ev c 97 8 [l0, l1, l2, l3] L2 (aL x.toInt64 :: St) S := ev_go i97_7 rfl
theorem i97_8 : insAt 97 8 = some (.lastore, 1, (0, 0, 0, 0), 0) := rfl
theorem s97_8 {c : Nat → List AV → SS → Option Out} {l0 l1 l2 l3 : Option AV} {x : Int64} {i : Int32} {o : OId} {L2 : List (Nat × AV)} {St : List AV} {S : SS} : ev c 97 8 [l0, l1, l2, l3] L2 (aL x :: aI i :: aR o :: St) S = kJ o i (ev c 97 9 [l0, l1, l2, l3] L2 St (S.1, setV S.2.1 o i.toNatClampNeg (aL x), S.2.2)) := ev_lastore i97_8
theorem i97_9 : insAt 97 9 = some (.goto 6, 3, (0, 0, 0, 0), 0) := rfl
theorem s97_9 {c : Nat → List AV → SS → Option Out} {l0 l1 l2 l3 : Option AV} {L2 : List (Nat × AV)} {St : List AV} {S : SS} : ev c 97 9 [l0, l1, l2, l3] L2 St S = ev c 97 15 [l0, l1, l2, l3] L2 St S := ev_go i97_9 rfl
theorem i97_13 : insAt 97 13 = some (.iconst 1, 1, (0, 0, 0, 0), 0) := rfl
theorem s97_13 {c : Nat → List AV → SS → Option Out} {l0 l1 l2 l3 : Option AV} {L2 : List (Nat × AV)} {St : List AV} {S : SS} : ev c 97 13 [l0, l1, l2, l3] L2 St S = ev c 97 14 [l0, l1, l2, l3] L2 (aI 1 :: St) S := ev_go i97_13 rfl
theorem i97_14 : insAt 97 14 = some (.ireturn, 1, (0, 0, 0, 0), 0) := rfl
theorem s97_14 {c : Nat → List AV → SS → Option Out} {l0 l1 l2 l3 : Option AV} {x : Int32} {L2 : List (Nat × AV)} {St : List AV} {S : SS} : ev c 97 14 [l0, l1, l2, l3] L2 [aI x] S = some (.inl (some (aI x)), S) := ev_end i97_14 rfl
theorem i97_15 : insAt 97 15 = some (.iconst 0, 1, (0, 0, 0, 0), 0) := rfl
theorem s97_15 {c : Nat → List AV → SS → Option Out} {l0 l1 l2 l3 : Option AV} {L2 : List (Nat × AV)} {St : List AV} {S : SS} : ev c 97 15 [l0, l1, l2, l3] L2 St S = ev c 97 16 [l0, l1, l2, l3] L2 (aI 0 :: St) S := ev_go i97_15 rfl
theorem i97_16 : insAt 97 16 = some (.ireturn, 1, (0, 0, 0, 0), 0) := rfl
theorem s97_16 {c : Nat → List AV → SS → Option Out} {l0 l1 l2 l3 : Option AV} {x : Int32} {L2 : List (Nat × AV)} {St : List AV} {S : SS} : ev c 97 16 [l0, l1, l2, l3] L2 [aI x] S = some (.inl (some (aI x)), S) := ev_end i97_16 rfl
theorem m97 {d : Nat} {a0 : OId} {a1 : Int32} {a2 : OId} {S : SS} : evm (d + 1) 97 [aR a0, aI a1, aR a2] S = ev (evm d) 97 0 [some (aR a0), some (aI a1), some (aR a2), none] [] [] S := evm_s (n := 4) rfl (Nat.le_of_ble_eq_true rfl) rfl rfl
/-! FrequencyOfficeLaw.pass(LFrequencyOffice;I[J)I -/
theorem i99_0 : insAt 99 0 = some (.aload_n 2, 1, (0, 0, 0, 0), 0) := rfl
theorem s99_0 {c : Nat → List AV → SS → Option Out} {l0 l1 l3 : Option AV} {o : OId} {L2 : List (Nat × AV)} {St : List AV} {S : SS} : ev c 99 0 [l0, l1, some (aR o), l3] L2 St S = ev c 99 1 [l0, l1, some (aR o), l3] L2 (aR o :: St) S := ev_go i99_0 rfl
theorem i99_1 : insAt 99 1 = some (.iconst 0, 1, (0, 0, 0, 0), 0) := rfl
theorem s99_1 {c : Nat → List AV → SS → Option Out} {l0 l1 l2 l3 : Option AV} {L2 : List (Nat × AV)} {St : List AV} {S : SS} : ev c 99 1 [l0, l1, l2, l3] L2 St S = ev c 99 2 [l0, l1, l2, l3] L2 (aI 0 :: St) S := ev_go i99_1 rfl
theorem i99_2 : insAt 99 2 = some (.aload_n 0, 1, (0, 0, 0, 0), 0) := rfl
theorem s99_2 {c : Nat → List AV → SS → Option Out} {l1 l2 l3 : Option AV} {o : OId} {L2 : List (Nat × AV)} {St : List AV} {S : SS} : ev c 99 2 [some (aR o), l1, l2, l3] L2 St S = ev c 99 3 [some (aR o), l1, l2, l3] L2 (aR o :: St) S := ev_go i99_2 rfl
theorem i99_3 : insAt 99 3 = some (.iload_n 1, 1, (0, 0, 0, 0), 0) := rfl
theorem s99_3 {c : Nat → List AV → SS → Option Out} {l0 l2 l3 : Option AV} {x : Int32} {L2 : List (Nat × AV)} {St : List AV} {S : SS} : ev c 99 3 [l0, some (aI x), l2, l3] L2 St S = ev c 99 4 [l0, some (aI x), l2, l3] L2 (aI x :: St) S := ev_go i99_3 rfl
theorem i99_4 : insAt 99 4 = some (.invokevirtual 38, 3, (100, 1, 2, 11), 0) := rfl
theorem s99_4 {c : Nat → List AV → SS → Option Out} {l0 l1 l2 l3 : Option AV} {t0 t1 : AV} {a0 : Int32} {j t : Nat} {S : SS} : ev c 99 4 [l0, l1, l2, l3] [] [aI a0, aR (11, j, t), t0, t1] S = ckH [(0, 9, 13, 3, 0), (0, 9, 16, 3, 1)] 4 (c 100 [aR (11, j, t), aI a0] S) (fun v S' => ev c 99 7 [l0, l1, l2, l3] [] (v.toList ++ [t0, t1]) S') (fun a b S' => ev c 99 a ([l0, l1, l2, l3].set b none) [] [] S') := ev_callH rfl (fun E a b h9 => hnd_lt (by decide) h9) i99_4 rfl
theorem i99_7 : insAt 99 7 = some (.i2l, 1, (0, 0, 0, 0), 0) := rfl
theorem s99_7 {c : Nat → List AV → SS → Option Out} {l0 l1 l2 l3 : Option AV} {x : Int32} {L2 : List (Nat × AV)} {St : List AV} {S : SS} : ev c 99 7 [l0, l1, l2, l3] L2 (aI x :: St) S = ev c 99 8 [l0, l1, l2, l3] L2 (aL x.toInt64 :: St) S := ev_go i99_7 rfl
theorem i99_8 : insAt 99 8 = some (.lastore, 1, (0, 0, 0, 0), 0) := rfl
theorem s99_8 {c : Nat → List AV → SS → Option Out} {l0 l1 l2 l3 : Option AV} {x : Int64} {i : Int32} {o : OId} {L2 : List (Nat × AV)} {St : List AV} {S : SS} : ev c 99 8 [l0, l1, l2, l3] L2 (aL x :: aI i :: aR o :: St) S = kJ o i (ev c 99 9 [l0, l1, l2, l3] L2 St (S.1, setV S.2.1 o i.toNatClampNeg (aL x), S.2.2)) := ev_lastore i99_8
theorem i99_9 : insAt 99 9 = some (.goto 9, 3, (0, 0, 0, 0), 0) := rfl
theorem s99_9 {c : Nat → List AV → SS → Option Out} {l0 l1 l2 l3 : Option AV} {L2 : List (Nat × AV)} {St : List AV} {S : SS} : ev c 99 9 [l0, l1, l2, l3] L2 St S = ev c 99 18 [l0, l1, l2, l3] L2 St S := ev_go i99_9 rfl
theorem i99_13 : insAt 99 13 = some (.iconst 1, 1, (0, 0, 0, 0), 0) := rfl
theorem s99_13 {c : Nat → List AV → SS → Option Out} {l0 l1 l2 l3 : Option AV} {L2 : List (Nat × AV)} {St : List AV} {S : SS} : ev c 99 13 [l0, l1, l2, l3] L2 St S = ev c 99 14 [l0, l1, l2, l3] L2 (aI 1 :: St) S := ev_go i99_13 rfl
theorem i99_14 : insAt 99 14 = some (.ireturn, 1, (0, 0, 0, 0), 0) := rfl
theorem s99_14 {c : Nat → List AV → SS → Option Out} {l0 l1 l2 l3 : Option AV} {x : Int32} {L2 : List (Nat × AV)} {St : List AV} {S : SS} : ev c 99 14 [l0, l1, l2, l3] L2 [aI x] S = some (.inl (some (aI x)), S) := ev_end i99_14 rfl
theorem i99_16 : insAt 99 16 = some (.iconst 2, 1, (0, 0, 0, 0), 0) := rfl
theorem s99_16 {c : Nat → List AV → SS → Option Out} {l0 l1 l2 l3 : Option AV} {L2 : List (Nat × AV)} {St : List AV} {S : SS} : ev c 99 16 [l0, l1, l2, l3] L2 St S = ev c 99 17 [l0, l1, l2, l3] L2 (aI 2 :: St) S := ev_go i99_16 rfl
theorem i99_17 : insAt 99 17 = some (.ireturn, 1, (0, 0, 0, 0), 0) := rfl
theorem s99_17 {c : Nat → List AV → SS → Option Out} {l0 l1 l2 l3 : Option AV} {x : Int32} {L2 : List (Nat × AV)} {St : List AV} {S : SS} : ev c 99 17 [l0, l1, l2, l3] L2 [aI x] S = some (.inl (some (aI x)), S) := ev_end i99_17 rfl
theorem i99_18 : insAt 99 18 = some (.iconst 0, 1, (0, 0, 0, 0), 0) := rfl
theorem s99_18 {c : Nat → List AV → SS → Option Out} {l0 l1 l2 l3 : Option AV} {L2 : List (Nat × AV)} {St : List AV} {S : SS} : ev c 99 18 [l0, l1, l2, l3] L2 St S = ev c 99 19 [l0, l1, l2, l3] L2 (aI 0 :: St) S := ev_go i99_18 rfl
theorem i99_19 : insAt 99 19 = some (.ireturn, 1, (0, 0, 0, 0), 0) := rfl
theorem s99_19 {c : Nat → List AV → SS → Option Out} {l0 l1 l2 l3 : Option AV} {x : Int32} {L2 : List (Nat × AV)} {St : List AV} {S : SS} : ev c 99 19 [l0, l1, l2, l3] L2 [aI x] S = some (.inl (some (aI x)), S) := ev_end i99_19 rfl
theorem m99 {d : Nat} {a0 : OId} {a1 : Int32} {a2 : OId} {S : SS} : evm (d + 1) 99 [aR a0, aI a1, aR a2] S = ev (evm d) 99 0 [some (aR a0), some (aI a1), some (aR a2), none] [] [] S := evm_s (n := 4) rfl (Nat.le_of_ble_eq_true rfl) rfl rfl
/-! FrequencyOfficeLaw.stationAt(LFrequencyOffice;I[J)I -/
theorem i102_0 : insAt 102 0 = some (.aload_n 2, 1, (0, 0, 0, 0), 0) := rfl
theorem s102_0 {c : Nat → List AV → SS → Option Out} {l0 l1 l3 : Option AV} {o : OId} {L2 : List (Nat × AV)} {St : List AV} {S : SS} : ev c 102 0 [l0, l1, some (aR o), l3] L2 St S = ev c 102 1 [l0, l1, some (aR o), l3] L2 (aR o :: St) S := ev_go i102_0 rfl
theorem i102_1 : insAt 102 1 = some (.iconst 0, 1, (0, 0, 0, 0), 0) := rfl
theorem s102_1 {c : Nat → List AV → SS → Option Out} {l0 l1 l2 l3 : Option AV} {L2 : List (Nat × AV)} {St : List AV} {S : SS} : ev c 102 1 [l0, l1, l2, l3] L2 St S = ev c 102 2 [l0, l1, l2, l3] L2 (aI 0 :: St) S := ev_go i102_1 rfl
theorem i102_2 : insAt 102 2 = some (.aload_n 0, 1, (0, 0, 0, 0), 0) := rfl
theorem s102_2 {c : Nat → List AV → SS → Option Out} {l1 l2 l3 : Option AV} {o : OId} {L2 : List (Nat × AV)} {St : List AV} {S : SS} : ev c 102 2 [some (aR o), l1, l2, l3] L2 St S = ev c 102 3 [some (aR o), l1, l2, l3] L2 (aR o :: St) S := ev_go i102_2 rfl
theorem i102_3 : insAt 102 3 = some (.iload_n 1, 1, (0, 0, 0, 0), 0) := rfl
theorem s102_3 {c : Nat → List AV → SS → Option Out} {l0 l2 l3 : Option AV} {x : Int32} {L2 : List (Nat × AV)} {St : List AV} {S : SS} : ev c 102 3 [l0, some (aI x), l2, l3] L2 St S = ev c 102 4 [l0, some (aI x), l2, l3] L2 (aI x :: St) S := ev_go i102_3 rfl
theorem i102_4 : insAt 102 4 = some (.invokevirtual 41, 3, (103, 1, 2, 11), 0) := rfl
theorem s102_4 {c : Nat → List AV → SS → Option Out} {l0 l1 l2 l3 : Option AV} {t0 t1 : AV} {a0 : Int32} {j t : Nat} {S : SS} : ev c 102 4 [l0, l1, l2, l3] [] [aI a0, aR (11, j, t), t0, t1] S = ckH [(0, 9, 13, 3, 4)] 4 (c 103 [aR (11, j, t), aI a0] S) (fun v S' => ev c 102 7 [l0, l1, l2, l3] [] (v.toList ++ [t0, t1]) S') (fun a b S' => ev c 102 a ([l0, l1, l2, l3].set b none) [] [] S') := ev_callH rfl (fun E a b h9 => hnd_lt (by decide) h9) i102_4 rfl
theorem i102_7 : insAt 102 7 = some (.i2l, 1, (0, 0, 0, 0), 0) := rfl
theorem s102_7 {c : Nat → List AV → SS → Option Out} {l0 l1 l2 l3 : Option AV} {x : Int32} {L2 : List (Nat × AV)} {St : List AV} {S : SS} : ev c 102 7 [l0, l1, l2, l3] L2 (aI x :: St) S = ev c 102 8 [l0, l1, l2, l3] L2 (aL x.toInt64 :: St) S := ev_go i102_7 rfl
theorem i102_8 : insAt 102 8 = some (.lastore, 1, (0, 0, 0, 0), 0) := rfl
theorem s102_8 {c : Nat → List AV → SS → Option Out} {l0 l1 l2 l3 : Option AV} {x : Int64} {i : Int32} {o : OId} {L2 : List (Nat × AV)} {St : List AV} {S : SS} : ev c 102 8 [l0, l1, l2, l3] L2 (aL x :: aI i :: aR o :: St) S = kJ o i (ev c 102 9 [l0, l1, l2, l3] L2 St (S.1, setV S.2.1 o i.toNatClampNeg (aL x), S.2.2)) := ev_lastore i102_8
theorem i102_9 : insAt 102 9 = some (.goto 6, 3, (0, 0, 0, 0), 0) := rfl
theorem s102_9 {c : Nat → List AV → SS → Option Out} {l0 l1 l2 l3 : Option AV} {L2 : List (Nat × AV)} {St : List AV} {S : SS} : ev c 102 9 [l0, l1, l2, l3] L2 St S = ev c 102 15 [l0, l1, l2, l3] L2 St S := ev_go i102_9 rfl
theorem i102_13 : insAt 102 13 = some (.iconst 1, 1, (0, 0, 0, 0), 0) := rfl
theorem s102_13 {c : Nat → List AV → SS → Option Out} {l0 l1 l2 l3 : Option AV} {L2 : List (Nat × AV)} {St : List AV} {S : SS} : ev c 102 13 [l0, l1, l2, l3] L2 St S = ev c 102 14 [l0, l1, l2, l3] L2 (aI 1 :: St) S := ev_go i102_13 rfl
theorem i102_14 : insAt 102 14 = some (.ireturn, 1, (0, 0, 0, 0), 0) := rfl
theorem s102_14 {c : Nat → List AV → SS → Option Out} {l0 l1 l2 l3 : Option AV} {x : Int32} {L2 : List (Nat × AV)} {St : List AV} {S : SS} : ev c 102 14 [l0, l1, l2, l3] L2 [aI x] S = some (.inl (some (aI x)), S) := ev_end i102_14 rfl
theorem i102_15 : insAt 102 15 = some (.iconst 0, 1, (0, 0, 0, 0), 0) := rfl
theorem s102_15 {c : Nat → List AV → SS → Option Out} {l0 l1 l2 l3 : Option AV} {L2 : List (Nat × AV)} {St : List AV} {S : SS} : ev c 102 15 [l0, l1, l2, l3] L2 St S = ev c 102 16 [l0, l1, l2, l3] L2 (aI 0 :: St) S := ev_go i102_15 rfl
theorem i102_16 : insAt 102 16 = some (.ireturn, 1, (0, 0, 0, 0), 0) := rfl
theorem s102_16 {c : Nat → List AV → SS → Option Out} {l0 l1 l2 l3 : Option AV} {x : Int32} {L2 : List (Nat × AV)} {St : List AV} {S : SS} : ev c 102 16 [l0, l1, l2, l3] L2 [aI x] S = some (.inl (some (aI x)), S) := ev_end i102_16 rfl
theorem m102 {d : Nat} {a0 : OId} {a1 : Int32} {a2 : OId} {S : SS} : evm (d + 1) 102 [aR a0, aI a1, aR a2] S = ev (evm d) 102 0 [some (aR a0), some (aI a1), some (aR a2), none] [] [] S := evm_s (n := 4) rfl (Nat.le_of_ble_eq_true rfl) rfl rfl
/-! FrequencyOfficeLaw.stationByExpiry(LFrequencyOffice;I[J)I -/
theorem i105_0 : insAt 105 0 = some (.aload_n 2, 1, (0, 0, 0, 0), 0) := rfl
theorem s105_0 {c : Nat → List AV → SS → Option Out} {l0 l1 l3 : Option AV} {o : OId} {L2 : List (Nat × AV)} {St : List AV} {S : SS} : ev c 105 0 [l0, l1, some (aR o), l3] L2 St S = ev c 105 1 [l0, l1, some (aR o), l3] L2 (aR o :: St) S := ev_go i105_0 rfl
theorem i105_1 : insAt 105 1 = some (.iconst 0, 1, (0, 0, 0, 0), 0) := rfl
theorem s105_1 {c : Nat → List AV → SS → Option Out} {l0 l1 l2 l3 : Option AV} {L2 : List (Nat × AV)} {St : List AV} {S : SS} : ev c 105 1 [l0, l1, l2, l3] L2 St S = ev c 105 2 [l0, l1, l2, l3] L2 (aI 0 :: St) S := ev_go i105_1 rfl
theorem i105_2 : insAt 105 2 = some (.aload_n 0, 1, (0, 0, 0, 0), 0) := rfl
theorem s105_2 {c : Nat → List AV → SS → Option Out} {l1 l2 l3 : Option AV} {o : OId} {L2 : List (Nat × AV)} {St : List AV} {S : SS} : ev c 105 2 [some (aR o), l1, l2, l3] L2 St S = ev c 105 3 [some (aR o), l1, l2, l3] L2 (aR o :: St) S := ev_go i105_2 rfl
theorem i105_3 : insAt 105 3 = some (.iload_n 1, 1, (0, 0, 0, 0), 0) := rfl
theorem s105_3 {c : Nat → List AV → SS → Option Out} {l0 l2 l3 : Option AV} {x : Int32} {L2 : List (Nat × AV)} {St : List AV} {S : SS} : ev c 105 3 [l0, some (aI x), l2, l3] L2 St S = ev c 105 4 [l0, some (aI x), l2, l3] L2 (aI x :: St) S := ev_go i105_3 rfl
theorem i105_4 : insAt 105 4 = some (.invokevirtual 46, 3, (106, 1, 2, 11), 0) := rfl
theorem s105_4 {c : Nat → List AV → SS → Option Out} {l0 l1 l2 l3 : Option AV} {t0 t1 : AV} {a0 : Int32} {j t : Nat} {S : SS} : ev c 105 4 [l0, l1, l2, l3] [] [aI a0, aR (11, j, t), t0, t1] S = ckH [(0, 9, 13, 3, 4)] 4 (c 106 [aR (11, j, t), aI a0] S) (fun v S' => ev c 105 7 [l0, l1, l2, l3] [] (v.toList ++ [t0, t1]) S') (fun a b S' => ev c 105 a ([l0, l1, l2, l3].set b none) [] [] S') := ev_callH rfl (fun E a b h9 => hnd_lt (by decide) h9) i105_4 rfl
theorem i105_7 : insAt 105 7 = some (.i2l, 1, (0, 0, 0, 0), 0) := rfl
theorem s105_7 {c : Nat → List AV → SS → Option Out} {l0 l1 l2 l3 : Option AV} {x : Int32} {L2 : List (Nat × AV)} {St : List AV} {S : SS} : ev c 105 7 [l0, l1, l2, l3] L2 (aI x :: St) S = ev c 105 8 [l0, l1, l2, l3] L2 (aL x.toInt64 :: St) S := ev_go i105_7 rfl
theorem i105_8 : insAt 105 8 = some (.lastore, 1, (0, 0, 0, 0), 0) := rfl
theorem s105_8 {c : Nat → List AV → SS → Option Out} {l0 l1 l2 l3 : Option AV} {x : Int64} {i : Int32} {o : OId} {L2 : List (Nat × AV)} {St : List AV} {S : SS} : ev c 105 8 [l0, l1, l2, l3] L2 (aL x :: aI i :: aR o :: St) S = kJ o i (ev c 105 9 [l0, l1, l2, l3] L2 St (S.1, setV S.2.1 o i.toNatClampNeg (aL x), S.2.2)) := ev_lastore i105_8
theorem i105_9 : insAt 105 9 = some (.goto 6, 3, (0, 0, 0, 0), 0) := rfl
theorem s105_9 {c : Nat → List AV → SS → Option Out} {l0 l1 l2 l3 : Option AV} {L2 : List (Nat × AV)} {St : List AV} {S : SS} : ev c 105 9 [l0, l1, l2, l3] L2 St S = ev c 105 15 [l0, l1, l2, l3] L2 St S := ev_go i105_9 rfl
theorem i105_13 : insAt 105 13 = some (.iconst 1, 1, (0, 0, 0, 0), 0) := rfl
theorem s105_13 {c : Nat → List AV → SS → Option Out} {l0 l1 l2 l3 : Option AV} {L2 : List (Nat × AV)} {St : List AV} {S : SS} : ev c 105 13 [l0, l1, l2, l3] L2 St S = ev c 105 14 [l0, l1, l2, l3] L2 (aI 1 :: St) S := ev_go i105_13 rfl
theorem i105_14 : insAt 105 14 = some (.ireturn, 1, (0, 0, 0, 0), 0) := rfl
theorem s105_14 {c : Nat → List AV → SS → Option Out} {l0 l1 l2 l3 : Option AV} {x : Int32} {L2 : List (Nat × AV)} {St : List AV} {S : SS} : ev c 105 14 [l0, l1, l2, l3] L2 [aI x] S = some (.inl (some (aI x)), S) := ev_end i105_14 rfl
theorem i105_15 : insAt 105 15 = some (.iconst 0, 1, (0, 0, 0, 0), 0) := rfl
theorem s105_15 {c : Nat → List AV → SS → Option Out} {l0 l1 l2 l3 : Option AV} {L2 : List (Nat × AV)} {St : List AV} {S : SS} : ev c 105 15 [l0, l1, l2, l3] L2 St S = ev c 105 16 [l0, l1, l2, l3] L2 (aI 0 :: St) S := ev_go i105_15 rfl
theorem i105_16 : insAt 105 16 = some (.ireturn, 1, (0, 0, 0, 0), 0) := rfl
theorem s105_16 {c : Nat → List AV → SS → Option Out} {l0 l1 l2 l3 : Option AV} {x : Int32} {L2 : List (Nat × AV)} {St : List AV} {S : SS} : ev c 105 16 [l0, l1, l2, l3] L2 [aI x] S = some (.inl (some (aI x)), S) := ev_end i105_16 rfl
theorem m105 {d : Nat} {a0 : OId} {a1 : Int32} {a2 : OId} {S : SS} : evm (d + 1) 105 [aR a0, aI a1, aR a2] S = ev (evm d) 105 0 [some (aR a0), some (aI a1), some (aR a2), none] [] [] S := evm_s (n := 4) rfl (Nat.le_of_ble_eq_true rfl) rfl rfl
/-! FrequencyOfficeLaw.xOf(LFrequencyOffice;I[J)I -/
theorem i109_0 : insAt 109 0 = some (.aload_n 2, 1, (0, 0, 0, 0), 0) := rfl
theorem s109_0 {c : Nat → List AV → SS → Option Out} {l0 l1 l3 : Option AV} {o : OId} {L2 : List (Nat × AV)} {St : List AV} {S : SS} : ev c 109 0 [l0, l1, some (aR o), l3] L2 St S = ev c 109 1 [l0, l1, some (aR o), l3] L2 (aR o :: St) S := ev_go i109_0 rfl
theorem i109_1 : insAt 109 1 = some (.iconst 0, 1, (0, 0, 0, 0), 0) := rfl
theorem s109_1 {c : Nat → List AV → SS → Option Out} {l0 l1 l2 l3 : Option AV} {L2 : List (Nat × AV)} {St : List AV} {S : SS} : ev c 109 1 [l0, l1, l2, l3] L2 St S = ev c 109 2 [l0, l1, l2, l3] L2 (aI 0 :: St) S := ev_go i109_1 rfl
theorem i109_2 : insAt 109 2 = some (.aload_n 0, 1, (0, 0, 0, 0), 0) := rfl
theorem s109_2 {c : Nat → List AV → SS → Option Out} {l1 l2 l3 : Option AV} {o : OId} {L2 : List (Nat × AV)} {St : List AV} {S : SS} : ev c 109 2 [some (aR o), l1, l2, l3] L2 St S = ev c 109 3 [some (aR o), l1, l2, l3] L2 (aR o :: St) S := ev_go i109_2 rfl
theorem i109_3 : insAt 109 3 = some (.iload_n 1, 1, (0, 0, 0, 0), 0) := rfl
theorem s109_3 {c : Nat → List AV → SS → Option Out} {l0 l2 l3 : Option AV} {x : Int32} {L2 : List (Nat × AV)} {St : List AV} {S : SS} : ev c 109 3 [l0, some (aI x), l2, l3] L2 St S = ev c 109 4 [l0, some (aI x), l2, l3] L2 (aI x :: St) S := ev_go i109_3 rfl
theorem i109_4 : insAt 109 4 = some (.invokevirtual 49, 3, (110, 1, 2, 11), 0) := rfl
theorem s109_4 {c : Nat → List AV → SS → Option Out} {l0 l1 l2 l3 : Option AV} {t0 t1 : AV} {a0 : Int32} {j t : Nat} {S : SS} : ev c 109 4 [l0, l1, l2, l3] [] [aI a0, aR (11, j, t), t0, t1] S = ckH [(0, 9, 13, 3, 3)] 4 (c 110 [aR (11, j, t), aI a0] S) (fun v S' => ev c 109 7 [l0, l1, l2, l3] [] (v.toList ++ [t0, t1]) S') (fun a b S' => ev c 109 a ([l0, l1, l2, l3].set b none) [] [] S') := ev_callH rfl (fun E a b h9 => hnd_lt (by decide) h9) i109_4 rfl
theorem i109_7 : insAt 109 7 = some (.i2l, 1, (0, 0, 0, 0), 0) := rfl
theorem s109_7 {c : Nat → List AV → SS → Option Out} {l0 l1 l2 l3 : Option AV} {x : Int32} {L2 : List (Nat × AV)} {St : List AV} {S : SS} : ev c 109 7 [l0, l1, l2, l3] L2 (aI x :: St) S = ev c 109 8 [l0, l1, l2, l3] L2 (aL x.toInt64 :: St) S := ev_go i109_7 rfl
theorem i109_8 : insAt 109 8 = some (.lastore, 1, (0, 0, 0, 0), 0) := rfl
theorem s109_8 {c : Nat → List AV → SS → Option Out} {l0 l1 l2 l3 : Option AV} {x : Int64} {i : Int32} {o : OId} {L2 : List (Nat × AV)} {St : List AV} {S : SS} : ev c 109 8 [l0, l1, l2, l3] L2 (aL x :: aI i :: aR o :: St) S = kJ o i (ev c 109 9 [l0, l1, l2, l3] L2 St (S.1, setV S.2.1 o i.toNatClampNeg (aL x), S.2.2)) := ev_lastore i109_8
theorem i109_9 : insAt 109 9 = some (.goto 6, 3, (0, 0, 0, 0), 0) := rfl
theorem s109_9 {c : Nat → List AV → SS → Option Out} {l0 l1 l2 l3 : Option AV} {L2 : List (Nat × AV)} {St : List AV} {S : SS} : ev c 109 9 [l0, l1, l2, l3] L2 St S = ev c 109 15 [l0, l1, l2, l3] L2 St S := ev_go i109_9 rfl
theorem i109_13 : insAt 109 13 = some (.iconst 1, 1, (0, 0, 0, 0), 0) := rfl
theorem s109_13 {c : Nat → List AV → SS → Option Out} {l0 l1 l2 l3 : Option AV} {L2 : List (Nat × AV)} {St : List AV} {S : SS} : ev c 109 13 [l0, l1, l2, l3] L2 St S = ev c 109 14 [l0, l1, l2, l3] L2 (aI 1 :: St) S := ev_go i109_13 rfl
theorem i109_14 : insAt 109 14 = some (.ireturn, 1, (0, 0, 0, 0), 0) := rfl
theorem s109_14 {c : Nat → List AV → SS → Option Out} {l0 l1 l2 l3 : Option AV} {x : Int32} {L2 : List (Nat × AV)} {St : List AV} {S : SS} : ev c 109 14 [l0, l1, l2, l3] L2 [aI x] S = some (.inl (some (aI x)), S) := ev_end i109_14 rfl
theorem i109_15 : insAt 109 15 = some (.iconst 0, 1, (0, 0, 0, 0), 0) := rfl
theorem s109_15 {c : Nat → List AV → SS → Option Out} {l0 l1 l2 l3 : Option AV} {L2 : List (Nat × AV)} {St : List AV} {S : SS} : ev c 109 15 [l0, l1, l2, l3] L2 St S = ev c 109 16 [l0, l1, l2, l3] L2 (aI 0 :: St) S := ev_go i109_15 rfl
theorem i109_16 : insAt 109 16 = some (.ireturn, 1, (0, 0, 0, 0), 0) := rfl
theorem s109_16 {c : Nat → List AV → SS → Option Out} {l0 l1 l2 l3 : Option AV} {x : Int32} {L2 : List (Nat × AV)} {St : List AV} {S : SS} : ev c 109 16 [l0, l1, l2, l3] L2 [aI x] S = some (.inl (some (aI x)), S) := ev_end i109_16 rfl
theorem m109 {d : Nat} {a0 : OId} {a1 : Int32} {a2 : OId} {S : SS} : evm (d + 1) 109 [aR a0, aI a1, aR a2] S = ev (evm d) 109 0 [some (aR a0), some (aI a1), some (aR a2), none] [] [] S := evm_s (n := 4) rfl (Nat.le_of_ble_eq_true rfl) rfl rfl
/-! FrequencyOfficeLaw.yOf(LFrequencyOffice;I[J)I -/
theorem i111_0 : insAt 111 0 = some (.aload_n 2, 1, (0, 0, 0, 0), 0) := rfl
theorem s111_0 {c : Nat → List AV → SS → Option Out} {l0 l1 l3 : Option AV} {o : OId} {L2 : List (Nat × AV)} {St : List AV} {S : SS} : ev c 111 0 [l0, l1, some (aR o), l3] L2 St S = ev c 111 1 [l0, l1, some (aR o), l3] L2 (aR o :: St) S := ev_go i111_0 rfl
theorem i111_1 : insAt 111 1 = some (.iconst 0, 1, (0, 0, 0, 0), 0) := rfl
theorem s111_1 {c : Nat → List AV → SS → Option Out} {l0 l1 l2 l3 : Option AV} {L2 : List (Nat × AV)} {St : List AV} {S : SS} : ev c 111 1 [l0, l1, l2, l3] L2 St S = ev c 111 2 [l0, l1, l2, l3] L2 (aI 0 :: St) S := ev_go i111_1 rfl
theorem i111_2 : insAt 111 2 = some (.aload_n 0, 1, (0, 0, 0, 0), 0) := rfl
theorem s111_2 {c : Nat → List AV → SS → Option Out} {l1 l2 l3 : Option AV} {o : OId} {L2 : List (Nat × AV)} {St : List AV} {S : SS} : ev c 111 2 [some (aR o), l1, l2, l3] L2 St S = ev c 111 3 [some (aR o), l1, l2, l3] L2 (aR o :: St) S := ev_go i111_2 rfl
theorem i111_3 : insAt 111 3 = some (.iload_n 1, 1, (0, 0, 0, 0), 0) := rfl
theorem s111_3 {c : Nat → List AV → SS → Option Out} {l0 l2 l3 : Option AV} {x : Int32} {L2 : List (Nat × AV)} {St : List AV} {S : SS} : ev c 111 3 [l0, some (aI x), l2, l3] L2 St S = ev c 111 4 [l0, some (aI x), l2, l3] L2 (aI x :: St) S := ev_go i111_3 rfl
theorem i111_4 : insAt 111 4 = some (.invokevirtual 52, 3, (112, 1, 2, 11), 0) := rfl
theorem s111_4 {c : Nat → List AV → SS → Option Out} {l0 l1 l2 l3 : Option AV} {t0 t1 : AV} {a0 : Int32} {j t : Nat} {S : SS} : ev c 111 4 [l0, l1, l2, l3] [] [aI a0, aR (11, j, t), t0, t1] S = ckH [(0, 9, 13, 3, 3)] 4 (c 112 [aR (11, j, t), aI a0] S) (fun v S' => ev c 111 7 [l0, l1, l2, l3] [] (v.toList ++ [t0, t1]) S') (fun a b S' => ev c 111 a ([l0, l1, l2, l3].set b none) [] [] S') := ev_callH rfl (fun E a b h9 => hnd_lt (by decide) h9) i111_4 rfl
theorem i111_7 : insAt 111 7 = some (.i2l, 1, (0, 0, 0, 0), 0) := rfl
theorem s111_7 {c : Nat → List AV → SS → Option Out} {l0 l1 l2 l3 : Option AV} {x : Int32} {L2 : List (Nat × AV)} {St : List AV} {S : SS} : ev c 111 7 [l0, l1, l2, l3] L2 (aI x :: St) S = ev c 111 8 [l0, l1, l2, l3] L2 (aL x.toInt64 :: St) S := ev_go i111_7 rfl
theorem i111_8 : insAt 111 8 = some (.lastore, 1, (0, 0, 0, 0), 0) := rfl
theorem s111_8 {c : Nat → List AV → SS → Option Out} {l0 l1 l2 l3 : Option AV} {x : Int64} {i : Int32} {o : OId} {L2 : List (Nat × AV)} {St : List AV} {S : SS} : ev c 111 8 [l0, l1, l2, l3] L2 (aL x :: aI i :: aR o :: St) S = kJ o i (ev c 111 9 [l0, l1, l2, l3] L2 St (S.1, setV S.2.1 o i.toNatClampNeg (aL x), S.2.2)) := ev_lastore i111_8
theorem i111_9 : insAt 111 9 = some (.goto 6, 3, (0, 0, 0, 0), 0) := rfl
theorem s111_9 {c : Nat → List AV → SS → Option Out} {l0 l1 l2 l3 : Option AV} {L2 : List (Nat × AV)} {St : List AV} {S : SS} : ev c 111 9 [l0, l1, l2, l3] L2 St S = ev c 111 15 [l0, l1, l2, l3] L2 St S := ev_go i111_9 rfl
theorem i111_13 : insAt 111 13 = some (.iconst 1, 1, (0, 0, 0, 0), 0) := rfl
theorem s111_13 {c : Nat → List AV → SS → Option Out} {l0 l1 l2 l3 : Option AV} {L2 : List (Nat × AV)} {St : List AV} {S : SS} : ev c 111 13 [l0, l1, l2, l3] L2 St S = ev c 111 14 [l0, l1, l2, l3] L2 (aI 1 :: St) S := ev_go i111_13 rfl
theorem i111_14 : insAt 111 14 = some (.ireturn, 1, (0, 0, 0, 0), 0) := rfl
theorem s111_14 {c : Nat → List AV → SS → Option Out} {l0 l1 l2 l3 : Option AV} {x : Int32} {L2 : List (Nat × AV)} {St : List AV} {S : SS} : ev c 111 14 [l0, l1, l2, l3] L2 [aI x] S = some (.inl (some (aI x)), S) := ev_end i111_14 rfl
theorem i111_15 : insAt 111 15 = some (.iconst 0, 1, (0, 0, 0, 0), 0) := rfl
theorem s111_15 {c : Nat → List AV → SS → Option Out} {l0 l1 l2 l3 : Option AV} {L2 : List (Nat × AV)} {St : List AV} {S : SS} : ev c 111 15 [l0, l1, l2, l3] L2 St S = ev c 111 16 [l0, l1, l2, l3] L2 (aI 0 :: St) S := ev_go i111_15 rfl
theorem i111_16 : insAt 111 16 = some (.ireturn, 1, (0, 0, 0, 0), 0) := rfl
theorem s111_16 {c : Nat → List AV → SS → Option Out} {l0 l1 l2 l3 : Option AV} {x : Int32} {L2 : List (Nat × AV)} {St : List AV} {S : SS} : ev c 111 16 [l0, l1, l2, l3] L2 [aI x] S = some (.inl (some (aI x)), S) := ev_end i111_16 rfl
theorem m111 {d : Nat} {a0 : OId} {a1 : Int32} {a2 : OId} {S : SS} : evm (d + 1) 111 [aR a0, aI a1, aR a2] S = ev (evm d) 111 0 [some (aR a0), some (aI a1), some (aR a2), none] [] [] S := evm_s (n := 4) rfl (Nat.le_of_ble_eq_true rfl) rfl rfl
/-! FrequencyOfficeLaw.channelOf(LFrequencyOffice;I[J)I -/
theorem i113_0 : insAt 113 0 = some (.aload_n 2, 1, (0, 0, 0, 0), 0) := rfl
theorem s113_0 {c : Nat → List AV → SS → Option Out} {l0 l1 l3 : Option AV} {o : OId} {L2 : List (Nat × AV)} {St : List AV} {S : SS} : ev c 113 0 [l0, l1, some (aR o), l3] L2 St S = ev c 113 1 [l0, l1, some (aR o), l3] L2 (aR o :: St) S := ev_go i113_0 rfl
theorem i113_1 : insAt 113 1 = some (.iconst 0, 1, (0, 0, 0, 0), 0) := rfl
theorem s113_1 {c : Nat → List AV → SS → Option Out} {l0 l1 l2 l3 : Option AV} {L2 : List (Nat × AV)} {St : List AV} {S : SS} : ev c 113 1 [l0, l1, l2, l3] L2 St S = ev c 113 2 [l0, l1, l2, l3] L2 (aI 0 :: St) S := ev_go i113_1 rfl
theorem i113_2 : insAt 113 2 = some (.aload_n 0, 1, (0, 0, 0, 0), 0) := rfl
theorem s113_2 {c : Nat → List AV → SS → Option Out} {l1 l2 l3 : Option AV} {o : OId} {L2 : List (Nat × AV)} {St : List AV} {S : SS} : ev c 113 2 [some (aR o), l1, l2, l3] L2 St S = ev c 113 3 [some (aR o), l1, l2, l3] L2 (aR o :: St) S := ev_go i113_2 rfl
theorem i113_3 : insAt 113 3 = some (.iload_n 1, 1, (0, 0, 0, 0), 0) := rfl
theorem s113_3 {c : Nat → List AV → SS → Option Out} {l0 l2 l3 : Option AV} {x : Int32} {L2 : List (Nat × AV)} {St : List AV} {S : SS} : ev c 113 3 [l0, some (aI x), l2, l3] L2 St S = ev c 113 4 [l0, some (aI x), l2, l3] L2 (aI x :: St) S := ev_go i113_3 rfl
theorem i113_4 : insAt 113 4 = some (.invokevirtual 55, 3, (114, 1, 2, 11), 0) := rfl
theorem s113_4 {c : Nat → List AV → SS → Option Out} {l0 l1 l2 l3 : Option AV} {t0 t1 : AV} {a0 : Int32} {j t : Nat} {S : SS} : ev c 113 4 [l0, l1, l2, l3] [] [aI a0, aR (11, j, t), t0, t1] S = ckH [(0, 9, 13, 3, 3)] 4 (c 114 [aR (11, j, t), aI a0] S) (fun v S' => ev c 113 7 [l0, l1, l2, l3] [] (v.toList ++ [t0, t1]) S') (fun a b S' => ev c 113 a ([l0, l1, l2, l3].set b none) [] [] S') := ev_callH rfl (fun E a b h9 => hnd_lt (by decide) h9) i113_4 rfl
theorem i113_7 : insAt 113 7 = some (.i2l, 1, (0, 0, 0, 0), 0) := rfl
theorem s113_7 {c : Nat → List AV → SS → Option Out} {l0 l1 l2 l3 : Option AV} {x : Int32} {L2 : List (Nat × AV)} {St : List AV} {S : SS} : ev c 113 7 [l0, l1, l2, l3] L2 (aI x :: St) S = ev c 113 8 [l0, l1, l2, l3] L2 (aL x.toInt64 :: St) S := ev_go i113_7 rfl
theorem i113_8 : insAt 113 8 = some (.lastore, 1, (0, 0, 0, 0), 0) := rfl
theorem s113_8 {c : Nat → List AV → SS → Option Out} {l0 l1 l2 l3 : Option AV} {x : Int64} {i : Int32} {o : OId} {L2 : List (Nat × AV)} {St : List AV} {S : SS} : ev c 113 8 [l0, l1, l2, l3] L2 (aL x :: aI i :: aR o :: St) S = kJ o i (ev c 113 9 [l0, l1, l2, l3] L2 St (S.1, setV S.2.1 o i.toNatClampNeg (aL x), S.2.2)) := ev_lastore i113_8
theorem i113_9 : insAt 113 9 = some (.goto 6, 3, (0, 0, 0, 0), 0) := rfl
theorem s113_9 {c : Nat → List AV → SS → Option Out} {l0 l1 l2 l3 : Option AV} {L2 : List (Nat × AV)} {St : List AV} {S : SS} : ev c 113 9 [l0, l1, l2, l3] L2 St S = ev c 113 15 [l0, l1, l2, l3] L2 St S := ev_go i113_9 rfl
theorem i113_13 : insAt 113 13 = some (.iconst 1, 1, (0, 0, 0, 0), 0) := rfl
theorem s113_13 {c : Nat → List AV → SS → Option Out} {l0 l1 l2 l3 : Option AV} {L2 : List (Nat × AV)} {St : List AV} {S : SS} : ev c 113 13 [l0, l1, l2, l3] L2 St S = ev c 113 14 [l0, l1, l2, l3] L2 (aI 1 :: St) S := ev_go i113_13 rfl
theorem i113_14 : insAt 113 14 = some (.ireturn, 1, (0, 0, 0, 0), 0) := rfl
theorem s113_14 {c : Nat → List AV → SS → Option Out} {l0 l1 l2 l3 : Option AV} {x : Int32} {L2 : List (Nat × AV)} {St : List AV} {S : SS} : ev c 113 14 [l0, l1, l2, l3] L2 [aI x] S = some (.inl (some (aI x)), S) := ev_end i113_14 rfl
theorem i113_15 : insAt 113 15 = some (.iconst 0, 1, (0, 0, 0, 0), 0) := rfl
theorem s113_15 {c : Nat → List AV → SS → Option Out} {l0 l1 l2 l3 : Option AV} {L2 : List (Nat × AV)} {St : List AV} {S : SS} : ev c 113 15 [l0, l1, l2, l3] L2 St S = ev c 113 16 [l0, l1, l2, l3] L2 (aI 0 :: St) S := ev_go i113_15 rfl
theorem i113_16 : insAt 113 16 = some (.ireturn, 1, (0, 0, 0, 0), 0) := rfl
theorem s113_16 {c : Nat → List AV → SS → Option Out} {l0 l1 l2 l3 : Option AV} {x : Int32} {L2 : List (Nat × AV)} {St : List AV} {S : SS} : ev c 113 16 [l0, l1, l2, l3] L2 [aI x] S = some (.inl (some (aI x)), S) := ev_end i113_16 rfl
theorem m113 {d : Nat} {a0 : OId} {a1 : Int32} {a2 : OId} {S : SS} : evm (d + 1) 113 [aR a0, aI a1, aR a2] S = ev (evm d) 113 0 [some (aR a0), some (aI a1), some (aR a2), none] [] [] S := evm_s (n := 4) rfl (Nat.le_of_ble_eq_true rfl) rfl rfl
/-! FrequencyOfficeLaw.expiryOf(LFrequencyOffice;I[J)I -/
theorem i115_0 : insAt 115 0 = some (.aload_n 2, 1, (0, 0, 0, 0), 0) := rfl
theorem s115_0 {c : Nat → List AV → SS → Option Out} {l0 l1 l3 : Option AV} {o : OId} {L2 : List (Nat × AV)} {St : List AV} {S : SS} : ev c 115 0 [l0, l1, some (aR o), l3] L2 St S = ev c 115 1 [l0, l1, some (aR o), l3] L2 (aR o :: St) S := ev_go i115_0 rfl
theorem i115_1 : insAt 115 1 = some (.iconst 0, 1, (0, 0, 0, 0), 0) := rfl
theorem s115_1 {c : Nat → List AV → SS → Option Out} {l0 l1 l2 l3 : Option AV} {L2 : List (Nat × AV)} {St : List AV} {S : SS} : ev c 115 1 [l0, l1, l2, l3] L2 St S = ev c 115 2 [l0, l1, l2, l3] L2 (aI 0 :: St) S := ev_go i115_1 rfl
theorem i115_2 : insAt 115 2 = some (.aload_n 0, 1, (0, 0, 0, 0), 0) := rfl
theorem s115_2 {c : Nat → List AV → SS → Option Out} {l1 l2 l3 : Option AV} {o : OId} {L2 : List (Nat × AV)} {St : List AV} {S : SS} : ev c 115 2 [some (aR o), l1, l2, l3] L2 St S = ev c 115 3 [some (aR o), l1, l2, l3] L2 (aR o :: St) S := ev_go i115_2 rfl
theorem i115_3 : insAt 115 3 = some (.iload_n 1, 1, (0, 0, 0, 0), 0) := rfl
theorem s115_3 {c : Nat → List AV → SS → Option Out} {l0 l2 l3 : Option AV} {x : Int32} {L2 : List (Nat × AV)} {St : List AV} {S : SS} : ev c 115 3 [l0, some (aI x), l2, l3] L2 St S = ev c 115 4 [l0, some (aI x), l2, l3] L2 (aI x :: St) S := ev_go i115_3 rfl
theorem i115_4 : insAt 115 4 = some (.invokevirtual 58, 3, (116, 1, 2, 11), 0) := rfl
theorem s115_4 {c : Nat → List AV → SS → Option Out} {l0 l1 l2 l3 : Option AV} {t0 t1 : AV} {a0 : Int32} {j t : Nat} {S : SS} : ev c 115 4 [l0, l1, l2, l3] [] [aI a0, aR (11, j, t), t0, t1] S = ckH [(0, 9, 13, 3, 3)] 4 (c 116 [aR (11, j, t), aI a0] S) (fun v S' => ev c 115 7 [l0, l1, l2, l3] [] (v.toList ++ [t0, t1]) S') (fun a b S' => ev c 115 a ([l0, l1, l2, l3].set b none) [] [] S') := ev_callH rfl (fun E a b h9 => hnd_lt (by decide) h9) i115_4 rfl
theorem i115_7 : insAt 115 7 = some (.i2l, 1, (0, 0, 0, 0), 0) := rfl
theorem s115_7 {c : Nat → List AV → SS → Option Out} {l0 l1 l2 l3 : Option AV} {x : Int32} {L2 : List (Nat × AV)} {St : List AV} {S : SS} : ev c 115 7 [l0, l1, l2, l3] L2 (aI x :: St) S = ev c 115 8 [l0, l1, l2, l3] L2 (aL x.toInt64 :: St) S := ev_go i115_7 rfl
theorem i115_8 : insAt 115 8 = some (.lastore, 1, (0, 0, 0, 0), 0) := rfl
theorem s115_8 {c : Nat → List AV → SS → Option Out} {l0 l1 l2 l3 : Option AV} {x : Int64} {i : Int32} {o : OId} {L2 : List (Nat × AV)} {St : List AV} {S : SS} : ev c 115 8 [l0, l1, l2, l3] L2 (aL x :: aI i :: aR o :: St) S = kJ o i (ev c 115 9 [l0, l1, l2, l3] L2 St (S.1, setV S.2.1 o i.toNatClampNeg (aL x), S.2.2)) := ev_lastore i115_8
theorem i115_9 : insAt 115 9 = some (.goto 6, 3, (0, 0, 0, 0), 0) := rfl
theorem s115_9 {c : Nat → List AV → SS → Option Out} {l0 l1 l2 l3 : Option AV} {L2 : List (Nat × AV)} {St : List AV} {S : SS} : ev c 115 9 [l0, l1, l2, l3] L2 St S = ev c 115 15 [l0, l1, l2, l3] L2 St S := ev_go i115_9 rfl
theorem i115_13 : insAt 115 13 = some (.iconst 1, 1, (0, 0, 0, 0), 0) := rfl
theorem s115_13 {c : Nat → List AV → SS → Option Out} {l0 l1 l2 l3 : Option AV} {L2 : List (Nat × AV)} {St : List AV} {S : SS} : ev c 115 13 [l0, l1, l2, l3] L2 St S = ev c 115 14 [l0, l1, l2, l3] L2 (aI 1 :: St) S := ev_go i115_13 rfl
theorem i115_14 : insAt 115 14 = some (.ireturn, 1, (0, 0, 0, 0), 0) := rfl
theorem s115_14 {c : Nat → List AV → SS → Option Out} {l0 l1 l2 l3 : Option AV} {x : Int32} {L2 : List (Nat × AV)} {St : List AV} {S : SS} : ev c 115 14 [l0, l1, l2, l3] L2 [aI x] S = some (.inl (some (aI x)), S) := ev_end i115_14 rfl
theorem i115_15 : insAt 115 15 = some (.iconst 0, 1, (0, 0, 0, 0), 0) := rfl
theorem s115_15 {c : Nat → List AV → SS → Option Out} {l0 l1 l2 l3 : Option AV} {L2 : List (Nat × AV)} {St : List AV} {S : SS} : ev c 115 15 [l0, l1, l2, l3] L2 St S = ev c 115 16 [l0, l1, l2, l3] L2 (aI 0 :: St) S := ev_go i115_15 rfl
theorem i115_16 : insAt 115 16 = some (.ireturn, 1, (0, 0, 0, 0), 0) := rfl
theorem s115_16 {c : Nat → List AV → SS → Option Out} {l0 l1 l2 l3 : Option AV} {x : Int32} {L2 : List (Nat × AV)} {St : List AV} {S : SS} : ev c 115 16 [l0, l1, l2, l3] L2 [aI x] S = some (.inl (some (aI x)), S) := ev_end i115_16 rfl
theorem m115 {d : Nat} {a0 : OId} {a1 : Int32} {a2 : OId} {S : SS} : evm (d + 1) 115 [aR a0, aI a1, aR a2] S = ev (evm d) 115 0 [some (aR a0), some (aI a1), some (aR a2), none] [] [] S := evm_s (n := 4) rfl (Nat.le_of_ble_eq_true rfl) rfl rfl
/-! FrequencyOfficeLaw.isOnTrial(LFrequencyOffice;I[J)I -/
theorem i117_0 : insAt 117 0 = some (.aload_n 2, 1, (0, 0, 0, 0), 0) := rfl
theorem s117_0 {c : Nat → List AV → SS → Option Out} {l0 l1 l3 : Option AV} {o : OId} {L2 : List (Nat × AV)} {St : List AV} {S : SS} : ev c 117 0 [l0, l1, some (aR o), l3] L2 St S = ev c 117 1 [l0, l1, some (aR o), l3] L2 (aR o :: St) S := ev_go i117_0 rfl
theorem i117_1 : insAt 117 1 = some (.iconst 0, 1, (0, 0, 0, 0), 0) := rfl
theorem s117_1 {c : Nat → List AV → SS → Option Out} {l0 l1 l2 l3 : Option AV} {L2 : List (Nat × AV)} {St : List AV} {S : SS} : ev c 117 1 [l0, l1, l2, l3] L2 St S = ev c 117 2 [l0, l1, l2, l3] L2 (aI 0 :: St) S := ev_go i117_1 rfl
theorem i117_2 : insAt 117 2 = some (.aload_n 0, 1, (0, 0, 0, 0), 0) := rfl
theorem s117_2 {c : Nat → List AV → SS → Option Out} {l1 l2 l3 : Option AV} {o : OId} {L2 : List (Nat × AV)} {St : List AV} {S : SS} : ev c 117 2 [some (aR o), l1, l2, l3] L2 St S = ev c 117 3 [some (aR o), l1, l2, l3] L2 (aR o :: St) S := ev_go i117_2 rfl
theorem i117_3 : insAt 117 3 = some (.iload_n 1, 1, (0, 0, 0, 0), 0) := rfl
theorem s117_3 {c : Nat → List AV → SS → Option Out} {l0 l2 l3 : Option AV} {x : Int32} {L2 : List (Nat × AV)} {St : List AV} {S : SS} : ev c 117 3 [l0, some (aI x), l2, l3] L2 St S = ev c 117 4 [l0, some (aI x), l2, l3] L2 (aI x :: St) S := ev_go i117_3 rfl
theorem i117_4 : insAt 117 4 = some (.invokevirtual 61, 3, (118, 1, 2, 11), 0) := rfl
theorem s117_4 {c : Nat → List AV → SS → Option Out} {l0 l1 l2 l3 : Option AV} {t0 t1 : AV} {a0 : Int32} {j t : Nat} {S : SS} : ev c 117 4 [l0, l1, l2, l3] [] [aI a0, aR (11, j, t), t0, t1] S = ckH [(0, 16, 20, 3, 3)] 4 (c 118 [aR (11, j, t), aI a0] S) (fun v S' => ev c 117 7 [l0, l1, l2, l3] [] (v.toList ++ [t0, t1]) S') (fun a b S' => ev c 117 a ([l0, l1, l2, l3].set b none) [] [] S') := ev_callH rfl (fun E a b h9 => hnd_lt (by decide) h9) i117_4 rfl
theorem i117_7 : insAt 117 7 = some (.ifCond .eq 7, 3, (0, 0, 0, 0), 0) := rfl
theorem s117_7 {c : Nat → List AV → SS → Option Out} {l0 l1 l2 l3 : Option AV} {x : Int32} {L2 : List (Nat × AV)} {St : List AV} {S : SS} : ev c 117 7 [l0, l1, l2, l3] L2 (aI x :: St) S = if x = 0 then ev c 117 14 [l0, l1, l2, l3] L2 St S else ev c 117 10 [l0, l1, l2, l3] L2 St S := ev_br i117_7 rfl
theorem i117_10 : insAt 117 10 = some (.lconst 1, 1, (0, 0, 0, 0), 0) := rfl
theorem s117_10 {c : Nat → List AV → SS → Option Out} {l0 l1 l2 l3 : Option AV} {L2 : List (Nat × AV)} {St : List AV} {S : SS} : ev c 117 10 [l0, l1, l2, l3] L2 St S = ev c 117 11 [l0, l1, l2, l3] L2 (aL 1 :: St) S := ev_go i117_10 rfl
theorem i117_11 : insAt 117 11 = some (.goto 4, 3, (0, 0, 0, 0), 0) := rfl
theorem s117_11 {c : Nat → List AV → SS → Option Out} {l0 l1 l2 l3 : Option AV} {L2 : List (Nat × AV)} {St : List AV} {S : SS} : ev c 117 11 [l0, l1, l2, l3] L2 St S = ev c 117 15 [l0, l1, l2, l3] L2 St S := ev_go i117_11 rfl
theorem i117_14 : insAt 117 14 = some (.lconst 0, 1, (0, 0, 0, 0), 0) := rfl
theorem s117_14 {c : Nat → List AV → SS → Option Out} {l0 l1 l2 l3 : Option AV} {L2 : List (Nat × AV)} {St : List AV} {S : SS} : ev c 117 14 [l0, l1, l2, l3] L2 St S = ev c 117 15 [l0, l1, l2, l3] L2 (aL 0 :: St) S := ev_go i117_14 rfl
theorem i117_15 : insAt 117 15 = some (.lastore, 1, (0, 0, 0, 0), 0) := rfl
theorem s117_15 {c : Nat → List AV → SS → Option Out} {l0 l1 l2 l3 : Option AV} {x : Int64} {i : Int32} {o : OId} {L2 : List (Nat × AV)} {St : List AV} {S : SS} : ev c 117 15 [l0, l1, l2, l3] L2 (aL x :: aI i :: aR o :: St) S = kJ o i (ev c 117 16 [l0, l1, l2, l3] L2 St (S.1, setV S.2.1 o i.toNatClampNeg (aL x), S.2.2)) := ev_lastore i117_15
theorem i117_16 : insAt 117 16 = some (.goto 6, 3, (0, 0, 0, 0), 0) := rfl
theorem s117_16 {c : Nat → List AV → SS → Option Out} {l0 l1 l2 l3 : Option AV} {L2 : List (Nat × AV)} {St : List AV} {S : SS} : ev c 117 16 [l0, l1, l2, l3] L2 St S = ev c 117 22 [l0, l1, l2, l3] L2 St S := ev_go i117_16 rfl
theorem i117_20 : insAt 117 20 = some (.iconst 1, 1, (0, 0, 0, 0), 0) := rfl
theorem s117_20 {c : Nat → List AV → SS → Option Out} {l0 l1 l2 l3 : Option AV} {L2 : List (Nat × AV)} {St : List AV} {S : SS} : ev c 117 20 [l0, l1, l2, l3] L2 St S = ev c 117 21 [l0, l1, l2, l3] L2 (aI 1 :: St) S := ev_go i117_20 rfl
theorem i117_21 : insAt 117 21 = some (.ireturn, 1, (0, 0, 0, 0), 0) := rfl
theorem s117_21 {c : Nat → List AV → SS → Option Out} {l0 l1 l2 l3 : Option AV} {x : Int32} {L2 : List (Nat × AV)} {St : List AV} {S : SS} : ev c 117 21 [l0, l1, l2, l3] L2 [aI x] S = some (.inl (some (aI x)), S) := ev_end i117_21 rfl
theorem i117_22 : insAt 117 22 = some (.iconst 0, 1, (0, 0, 0, 0), 0) := rfl
theorem s117_22 {c : Nat → List AV → SS → Option Out} {l0 l1 l2 l3 : Option AV} {L2 : List (Nat × AV)} {St : List AV} {S : SS} : ev c 117 22 [l0, l1, l2, l3] L2 St S = ev c 117 23 [l0, l1, l2, l3] L2 (aI 0 :: St) S := ev_go i117_22 rfl
theorem i117_23 : insAt 117 23 = some (.ireturn, 1, (0, 0, 0, 0), 0) := rfl
theorem s117_23 {c : Nat → List AV → SS → Option Out} {l0 l1 l2 l3 : Option AV} {x : Int32} {L2 : List (Nat × AV)} {St : List AV} {S : SS} : ev c 117 23 [l0, l1, l2, l3] L2 [aI x] S = some (.inl (some (aI x)), S) := ev_end i117_23 rfl
theorem m117 {d : Nat} {a0 : OId} {a1 : Int32} {a2 : OId} {S : SS} : evm (d + 1) 117 [aR a0, aI a1, aR a2] S = ev (evm d) 117 0 [some (aR a0), some (aI a1), some (aR a2), none] [] [] S := evm_s (n := 4) rfl (Nat.le_of_ble_eq_true rfl) rfl rfl
/-! FrequencyOfficeLaw.squaredDistance(LFrequencyOffice;II[J)I -/
theorem i119_0 : insAt 119 0 = some (.aload_n 3, 1, (0, 0, 0, 0), 0) := rfl
theorem s119_0 {c : Nat → List AV → SS → Option Out} {l0 l1 l2 l4 : Option AV} {o : OId} {L2 : List (Nat × AV)} {St : List AV} {S : SS} : ev c 119 0 [l0, l1, l2, some (aR o), l4] L2 St S = ev c 119 1 [l0, l1, l2, some (aR o), l4] L2 (aR o :: St) S := ev_go i119_0 rfl
theorem i119_1 : insAt 119 1 = some (.iconst 0, 1, (0, 0, 0, 0), 0) := rfl
theorem s119_1 {c : Nat → List AV → SS → Option Out} {l0 l1 l2 l3 l4 : Option AV} {L2 : List (Nat × AV)} {St : List AV} {S : SS} : ev c 119 1 [l0, l1, l2, l3, l4] L2 St S = ev c 119 2 [l0, l1, l2, l3, l4] L2 (aI 0 :: St) S := ev_go i119_1 rfl
theorem i119_2 : insAt 119 2 = some (.aload_n 0, 1, (0, 0, 0, 0), 0) := rfl
theorem s119_2 {c : Nat → List AV → SS → Option Out} {l1 l2 l3 l4 : Option AV} {o : OId} {L2 : List (Nat × AV)} {St : List AV} {S : SS} : ev c 119 2 [some (aR o), l1, l2, l3, l4] L2 St S = ev c 119 3 [some (aR o), l1, l2, l3, l4] L2 (aR o :: St) S := ev_go i119_2 rfl
theorem i119_3 : insAt 119 3 = some (.iload_n 1, 1, (0, 0, 0, 0), 0) := rfl
theorem s119_3 {c : Nat → List AV → SS → Option Out} {l0 l2 l3 l4 : Option AV} {x : Int32} {L2 : List (Nat × AV)} {St : List AV} {S : SS} : ev c 119 3 [l0, some (aI x), l2, l3, l4] L2 St S = ev c 119 4 [l0, some (aI x), l2, l3, l4] L2 (aI x :: St) S := ev_go i119_3 rfl
theorem i119_4 : insAt 119 4 = some (.iload_n 2, 1, (0, 0, 0, 0), 0) := rfl
theorem s119_4 {c : Nat → List AV → SS → Option Out} {l0 l1 l3 l4 : Option AV} {x : Int32} {L2 : List (Nat × AV)} {St : List AV} {S : SS} : ev c 119 4 [l0, l1, some (aI x), l3, l4] L2 St S = ev c 119 5 [l0, l1, some (aI x), l3, l4] L2 (aI x :: St) S := ev_go i119_4 rfl
theorem i119_5 : insAt 119 5 = some (.invokevirtual 65, 3, (120, 2, 2, 11), 0) := rfl
theorem s119_5 {c : Nat → List AV → SS → Option Out} {l0 l1 l2 l3 l4 : Option AV} {t0 t1 : AV} {a0 : Int32} {a1 : Int32} {j t : Nat} {S : SS} : ev c 119 5 [l0, l1, l2, l3, l4] [] [aI a1, aI a0, aR (11, j, t), t0, t1] S = ckH [(0, 10, 15, 4, 3), (0, 10, 19, 4, 0)] 5 (c 120 [aR (11, j, t), aI a0, aI a1] S) (fun v S' => ev c 119 8 [l0, l1, l2, l3, l4] [] (v.toList ++ [t0, t1]) S') (fun a b S' => ev c 119 a ([l0, l1, l2, l3, l4].set b none) [] [] S') := ev_callH rfl (fun E a b h9 => hnd_lt (by decide) h9) i119_5 rfl
theorem i119_8 : insAt 119 8 = some (.i2l, 1, (0, 0, 0, 0), 0) := rfl
theorem s119_8 {c : Nat → List AV → SS → Option Out} {l0 l1 l2 l3 l4 : Option AV} {x : Int32} {L2 : List (Nat × AV)} {St : List AV} {S : SS} : ev c 119 8 [l0, l1, l2, l3, l4] L2 (aI x :: St) S = ev c 119 9 [l0, l1, l2, l3, l4] L2 (aL x.toInt64 :: St) S := ev_go i119_8 rfl
theorem i119_9 : insAt 119 9 = some (.lastore, 1, (0, 0, 0, 0), 0) := rfl
theorem s119_9 {c : Nat → List AV → SS → Option Out} {l0 l1 l2 l3 l4 : Option AV} {x : Int64} {i : Int32} {o : OId} {L2 : List (Nat × AV)} {St : List AV} {S : SS} : ev c 119 9 [l0, l1, l2, l3, l4] L2 (aL x :: aI i :: aR o :: St) S = kJ o i (ev c 119 10 [l0, l1, l2, l3, l4] L2 St (S.1, setV S.2.1 o i.toNatClampNeg (aL x), S.2.2)) := ev_lastore i119_9
theorem i119_10 : insAt 119 10 = some (.goto 11, 3, (0, 0, 0, 0), 0) := rfl
theorem s119_10 {c : Nat → List AV → SS → Option Out} {l0 l1 l2 l3 l4 : Option AV} {L2 : List (Nat × AV)} {St : List AV} {S : SS} : ev c 119 10 [l0, l1, l2, l3, l4] L2 St S = ev c 119 21 [l0, l1, l2, l3, l4] L2 St S := ev_go i119_10 rfl
theorem i119_15 : insAt 119 15 = some (.iconst 1, 1, (0, 0, 0, 0), 0) := rfl
theorem s119_15 {c : Nat → List AV → SS → Option Out} {l0 l1 l2 l3 l4 : Option AV} {L2 : List (Nat × AV)} {St : List AV} {S : SS} : ev c 119 15 [l0, l1, l2, l3, l4] L2 St S = ev c 119 16 [l0, l1, l2, l3, l4] L2 (aI 1 :: St) S := ev_go i119_15 rfl
theorem i119_16 : insAt 119 16 = some (.ireturn, 1, (0, 0, 0, 0), 0) := rfl
theorem s119_16 {c : Nat → List AV → SS → Option Out} {l0 l1 l2 l3 l4 : Option AV} {x : Int32} {L2 : List (Nat × AV)} {St : List AV} {S : SS} : ev c 119 16 [l0, l1, l2, l3, l4] L2 [aI x] S = some (.inl (some (aI x)), S) := ev_end i119_16 rfl
theorem i119_19 : insAt 119 19 = some (.iconst 2, 1, (0, 0, 0, 0), 0) := rfl
theorem s119_19 {c : Nat → List AV → SS → Option Out} {l0 l1 l2 l3 l4 : Option AV} {L2 : List (Nat × AV)} {St : List AV} {S : SS} : ev c 119 19 [l0, l1, l2, l3, l4] L2 St S = ev c 119 20 [l0, l1, l2, l3, l4] L2 (aI 2 :: St) S := ev_go i119_19 rfl
theorem i119_20 : insAt 119 20 = some (.ireturn, 1, (0, 0, 0, 0), 0) := rfl
theorem s119_20 {c : Nat → List AV → SS → Option Out} {l0 l1 l2 l3 l4 : Option AV} {x : Int32} {L2 : List (Nat × AV)} {St : List AV} {S : SS} : ev c 119 20 [l0, l1, l2, l3, l4] L2 [aI x] S = some (.inl (some (aI x)), S) := ev_end i119_20 rfl
theorem i119_21 : insAt 119 21 = some (.iconst 0, 1, (0, 0, 0, 0), 0) := rfl
theorem s119_21 {c : Nat → List AV → SS → Option Out} {l0 l1 l2 l3 l4 : Option AV} {L2 : List (Nat × AV)} {St : List AV} {S : SS} : ev c 119 21 [l0, l1, l2, l3, l4] L2 St S = ev c 119 22 [l0, l1, l2, l3, l4] L2 (aI 0 :: St) S := ev_go i119_21 rfl
theorem i119_22 : insAt 119 22 = some (.ireturn, 1, (0, 0, 0, 0), 0) := rfl
theorem s119_22 {c : Nat → List AV → SS → Option Out} {l0 l1 l2 l3 l4 : Option AV} {x : Int32} {L2 : List (Nat × AV)} {St : List AV} {S : SS} : ev c 119 22 [l0, l1, l2, l3, l4] L2 [aI x] S = some (.inl (some (aI x)), S) := ev_end i119_22 rfl
theorem m119 {d : Nat} {a0 : OId} {a1 : Int32} {a2 : Int32} {a3 : OId} {S : SS} : evm (d + 1) 119 [aR a0, aI a1, aI a2, aR a3] S = ev (evm d) 119 0 [some (aR a0), some (aI a1), some (aI a2), some (aR a3), none] [] [] S := evm_s (n := 5) rfl (Nat.le_of_ble_eq_true rfl) rfl rfl
/-! FrequencyOfficeLaw.baseSeparation(LFrequencyOffice;II[J)I -/
theorem i123_0 : insAt 123 0 = some (.aload_n 3, 1, (0, 0, 0, 0), 0) := rfl
theorem s123_0 {c : Nat → List AV → SS → Option Out} {l0 l1 l2 l4 : Option AV} {o : OId} {L2 : List (Nat × AV)} {St : List AV} {S : SS} : ev c 123 0 [l0, l1, l2, some (aR o), l4] L2 St S = ev c 123 1 [l0, l1, l2, some (aR o), l4] L2 (aR o :: St) S := ev_go i123_0 rfl
theorem i123_1 : insAt 123 1 = some (.iconst 0, 1, (0, 0, 0, 0), 0) := rfl
theorem s123_1 {c : Nat → List AV → SS → Option Out} {l0 l1 l2 l3 l4 : Option AV} {L2 : List (Nat × AV)} {St : List AV} {S : SS} : ev c 123 1 [l0, l1, l2, l3, l4] L2 St S = ev c 123 2 [l0, l1, l2, l3, l4] L2 (aI 0 :: St) S := ev_go i123_1 rfl
theorem i123_2 : insAt 123 2 = some (.aload_n 0, 1, (0, 0, 0, 0), 0) := rfl
theorem s123_2 {c : Nat → List AV → SS → Option Out} {l1 l2 l3 l4 : Option AV} {o : OId} {L2 : List (Nat × AV)} {St : List AV} {S : SS} : ev c 123 2 [some (aR o), l1, l2, l3, l4] L2 St S = ev c 123 3 [some (aR o), l1, l2, l3, l4] L2 (aR o :: St) S := ev_go i123_2 rfl
theorem i123_3 : insAt 123 3 = some (.iload_n 1, 1, (0, 0, 0, 0), 0) := rfl
theorem s123_3 {c : Nat → List AV → SS → Option Out} {l0 l2 l3 l4 : Option AV} {x : Int32} {L2 : List (Nat × AV)} {St : List AV} {S : SS} : ev c 123 3 [l0, some (aI x), l2, l3, l4] L2 St S = ev c 123 4 [l0, some (aI x), l2, l3, l4] L2 (aI x :: St) S := ev_go i123_3 rfl
theorem i123_4 : insAt 123 4 = some (.iload_n 2, 1, (0, 0, 0, 0), 0) := rfl
theorem s123_4 {c : Nat → List AV → SS → Option Out} {l0 l1 l3 l4 : Option AV} {x : Int32} {L2 : List (Nat × AV)} {St : List AV} {S : SS} : ev c 123 4 [l0, l1, some (aI x), l3, l4] L2 St S = ev c 123 5 [l0, l1, some (aI x), l3, l4] L2 (aI x :: St) S := ev_go i123_4 rfl
theorem i123_5 : insAt 123 5 = some (.invokevirtual 68, 3, (124, 2, 2, 11), 0) := rfl
theorem s123_5 {c : Nat → List AV → SS → Option Out} {l0 l1 l2 l3 l4 : Option AV} {t0 t1 : AV} {a0 : Int32} {a1 : Int32} {j t : Nat} {S : SS} : ev c 123 5 [l0, l1, l2, l3, l4] [] [aI a1, aI a0, aR (11, j, t), t0, t1] S = ckH [(0, 10, 15, 4, 3), (0, 10, 19, 4, 0)] 5 (c 124 [aR (11, j, t), aI a0, aI a1] S) (fun v S' => ev c 123 8 [l0, l1, l2, l3, l4] [] (v.toList ++ [t0, t1]) S') (fun a b S' => ev c 123 a ([l0, l1, l2, l3, l4].set b none) [] [] S') := ev_callH rfl (fun E a b h9 => hnd_lt (by decide) h9) i123_5 rfl
theorem i123_8 : insAt 123 8 = some (.i2l, 1, (0, 0, 0, 0), 0) := rfl
theorem s123_8 {c : Nat → List AV → SS → Option Out} {l0 l1 l2 l3 l4 : Option AV} {x : Int32} {L2 : List (Nat × AV)} {St : List AV} {S : SS} : ev c 123 8 [l0, l1, l2, l3, l4] L2 (aI x :: St) S = ev c 123 9 [l0, l1, l2, l3, l4] L2 (aL x.toInt64 :: St) S := ev_go i123_8 rfl
theorem i123_9 : insAt 123 9 = some (.lastore, 1, (0, 0, 0, 0), 0) := rfl
theorem s123_9 {c : Nat → List AV → SS → Option Out} {l0 l1 l2 l3 l4 : Option AV} {x : Int64} {i : Int32} {o : OId} {L2 : List (Nat × AV)} {St : List AV} {S : SS} : ev c 123 9 [l0, l1, l2, l3, l4] L2 (aL x :: aI i :: aR o :: St) S = kJ o i (ev c 123 10 [l0, l1, l2, l3, l4] L2 St (S.1, setV S.2.1 o i.toNatClampNeg (aL x), S.2.2)) := ev_lastore i123_9
theorem i123_10 : insAt 123 10 = some (.goto 11, 3, (0, 0, 0, 0), 0) := rfl
theorem s123_10 {c : Nat → List AV → SS → Option Out} {l0 l1 l2 l3 l4 : Option AV} {L2 : List (Nat × AV)} {St : List AV} {S : SS} : ev c 123 10 [l0, l1, l2, l3, l4] L2 St S = ev c 123 21 [l0, l1, l2, l3, l4] L2 St S := ev_go i123_10 rfl
theorem i123_15 : insAt 123 15 = some (.iconst 1, 1, (0, 0, 0, 0), 0) := rfl
theorem s123_15 {c : Nat → List AV → SS → Option Out} {l0 l1 l2 l3 l4 : Option AV} {L2 : List (Nat × AV)} {St : List AV} {S : SS} : ev c 123 15 [l0, l1, l2, l3, l4] L2 St S = ev c 123 16 [l0, l1, l2, l3, l4] L2 (aI 1 :: St) S := ev_go i123_15 rfl
theorem i123_16 : insAt 123 16 = some (.ireturn, 1, (0, 0, 0, 0), 0) := rfl
theorem s123_16 {c : Nat → List AV → SS → Option Out} {l0 l1 l2 l3 l4 : Option AV} {x : Int32} {L2 : List (Nat × AV)} {St : List AV} {S : SS} : ev c 123 16 [l0, l1, l2, l3, l4] L2 [aI x] S = some (.inl (some (aI x)), S) := ev_end i123_16 rfl
theorem i123_19 : insAt 123 19 = some (.iconst 2, 1, (0, 0, 0, 0), 0) := rfl
theorem s123_19 {c : Nat → List AV → SS → Option Out} {l0 l1 l2 l3 l4 : Option AV} {L2 : List (Nat × AV)} {St : List AV} {S : SS} : ev c 123 19 [l0, l1, l2, l3, l4] L2 St S = ev c 123 20 [l0, l1, l2, l3, l4] L2 (aI 2 :: St) S := ev_go i123_19 rfl
theorem i123_20 : insAt 123 20 = some (.ireturn, 1, (0, 0, 0, 0), 0) := rfl
theorem s123_20 {c : Nat → List AV → SS → Option Out} {l0 l1 l2 l3 l4 : Option AV} {x : Int32} {L2 : List (Nat × AV)} {St : List AV} {S : SS} : ev c 123 20 [l0, l1, l2, l3, l4] L2 [aI x] S = some (.inl (some (aI x)), S) := ev_end i123_20 rfl
theorem i123_21 : insAt 123 21 = some (.iconst 0, 1, (0, 0, 0, 0), 0) := rfl
theorem s123_21 {c : Nat → List AV → SS → Option Out} {l0 l1 l2 l3 l4 : Option AV} {L2 : List (Nat × AV)} {St : List AV} {S : SS} : ev c 123 21 [l0, l1, l2, l3, l4] L2 St S = ev c 123 22 [l0, l1, l2, l3, l4] L2 (aI 0 :: St) S := ev_go i123_21 rfl
theorem i123_22 : insAt 123 22 = some (.ireturn, 1, (0, 0, 0, 0), 0) := rfl
theorem s123_22 {c : Nat → List AV → SS → Option Out} {l0 l1 l2 l3 l4 : Option AV} {x : Int32} {L2 : List (Nat × AV)} {St : List AV} {S : SS} : ev c 123 22 [l0, l1, l2, l3, l4] L2 [aI x] S = some (.inl (some (aI x)), S) := ev_end i123_22 rfl
theorem m123 {d : Nat} {a0 : OId} {a1 : Int32} {a2 : Int32} {a3 : OId} {S : SS} : evm (d + 1) 123 [aR a0, aI a1, aI a2, aR a3] S = ev (evm d) 123 0 [some (aR a0), some (aI a1), some (aI a2), some (aR a3), none] [] [] S := evm_s (n := 5) rfl (Nat.le_of_ble_eq_true rfl) rfl rfl
/-! FrequencyOfficeLaw.complaintCount(LFrequencyOffice;II[J)I -/
theorem i125_0 : insAt 125 0 = some (.aload_n 3, 1, (0, 0, 0, 0), 0) := rfl
theorem s125_0 {c : Nat → List AV → SS → Option Out} {l0 l1 l2 l4 : Option AV} {o : OId} {L2 : List (Nat × AV)} {St : List AV} {S : SS} : ev c 125 0 [l0, l1, l2, some (aR o), l4] L2 St S = ev c 125 1 [l0, l1, l2, some (aR o), l4] L2 (aR o :: St) S := ev_go i125_0 rfl
theorem i125_1 : insAt 125 1 = some (.iconst 0, 1, (0, 0, 0, 0), 0) := rfl
theorem s125_1 {c : Nat → List AV → SS → Option Out} {l0 l1 l2 l3 l4 : Option AV} {L2 : List (Nat × AV)} {St : List AV} {S : SS} : ev c 125 1 [l0, l1, l2, l3, l4] L2 St S = ev c 125 2 [l0, l1, l2, l3, l4] L2 (aI 0 :: St) S := ev_go i125_1 rfl
theorem i125_2 : insAt 125 2 = some (.aload_n 0, 1, (0, 0, 0, 0), 0) := rfl
theorem s125_2 {c : Nat → List AV → SS → Option Out} {l1 l2 l3 l4 : Option AV} {o : OId} {L2 : List (Nat × AV)} {St : List AV} {S : SS} : ev c 125 2 [some (aR o), l1, l2, l3, l4] L2 St S = ev c 125 3 [some (aR o), l1, l2, l3, l4] L2 (aR o :: St) S := ev_go i125_2 rfl
theorem i125_3 : insAt 125 3 = some (.iload_n 1, 1, (0, 0, 0, 0), 0) := rfl
theorem s125_3 {c : Nat → List AV → SS → Option Out} {l0 l2 l3 l4 : Option AV} {x : Int32} {L2 : List (Nat × AV)} {St : List AV} {S : SS} : ev c 125 3 [l0, some (aI x), l2, l3, l4] L2 St S = ev c 125 4 [l0, some (aI x), l2, l3, l4] L2 (aI x :: St) S := ev_go i125_3 rfl
theorem i125_4 : insAt 125 4 = some (.iload_n 2, 1, (0, 0, 0, 0), 0) := rfl
theorem s125_4 {c : Nat → List AV → SS → Option Out} {l0 l1 l3 l4 : Option AV} {x : Int32} {L2 : List (Nat × AV)} {St : List AV} {S : SS} : ev c 125 4 [l0, l1, some (aI x), l3, l4] L2 St S = ev c 125 5 [l0, l1, some (aI x), l3, l4] L2 (aI x :: St) S := ev_go i125_4 rfl
theorem i125_5 : insAt 125 5 = some (.invokevirtual 71, 3, (126, 2, 2, 11), 0) := rfl
theorem s125_5 {c : Nat → List AV → SS → Option Out} {l0 l1 l2 l3 l4 : Option AV} {t0 t1 : AV} {a0 : Int32} {a1 : Int32} {j t : Nat} {S : SS} : ev c 125 5 [l0, l1, l2, l3, l4] [] [aI a1, aI a0, aR (11, j, t), t0, t1] S = ckH [(0, 10, 15, 4, 3), (0, 10, 19, 4, 0)] 5 (c 126 [aR (11, j, t), aI a0, aI a1] S) (fun v S' => ev c 125 8 [l0, l1, l2, l3, l4] [] (v.toList ++ [t0, t1]) S') (fun a b S' => ev c 125 a ([l0, l1, l2, l3, l4].set b none) [] [] S') := ev_callH rfl (fun E a b h9 => hnd_lt (by decide) h9) i125_5 rfl
theorem i125_8 : insAt 125 8 = some (.i2l, 1, (0, 0, 0, 0), 0) := rfl
theorem s125_8 {c : Nat → List AV → SS → Option Out} {l0 l1 l2 l3 l4 : Option AV} {x : Int32} {L2 : List (Nat × AV)} {St : List AV} {S : SS} : ev c 125 8 [l0, l1, l2, l3, l4] L2 (aI x :: St) S = ev c 125 9 [l0, l1, l2, l3, l4] L2 (aL x.toInt64 :: St) S := ev_go i125_8 rfl
theorem i125_9 : insAt 125 9 = some (.lastore, 1, (0, 0, 0, 0), 0) := rfl
theorem s125_9 {c : Nat → List AV → SS → Option Out} {l0 l1 l2 l3 l4 : Option AV} {x : Int64} {i : Int32} {o : OId} {L2 : List (Nat × AV)} {St : List AV} {S : SS} : ev c 125 9 [l0, l1, l2, l3, l4] L2 (aL x :: aI i :: aR o :: St) S = kJ o i (ev c 125 10 [l0, l1, l2, l3, l4] L2 St (S.1, setV S.2.1 o i.toNatClampNeg (aL x), S.2.2)) := ev_lastore i125_9
theorem i125_10 : insAt 125 10 = some (.goto 11, 3, (0, 0, 0, 0), 0) := rfl
theorem s125_10 {c : Nat → List AV → SS → Option Out} {l0 l1 l2 l3 l4 : Option AV} {L2 : List (Nat × AV)} {St : List AV} {S : SS} : ev c 125 10 [l0, l1, l2, l3, l4] L2 St S = ev c 125 21 [l0, l1, l2, l3, l4] L2 St S := ev_go i125_10 rfl
theorem i125_15 : insAt 125 15 = some (.iconst 1, 1, (0, 0, 0, 0), 0) := rfl
theorem s125_15 {c : Nat → List AV → SS → Option Out} {l0 l1 l2 l3 l4 : Option AV} {L2 : List (Nat × AV)} {St : List AV} {S : SS} : ev c 125 15 [l0, l1, l2, l3, l4] L2 St S = ev c 125 16 [l0, l1, l2, l3, l4] L2 (aI 1 :: St) S := ev_go i125_15 rfl
theorem i125_16 : insAt 125 16 = some (.ireturn, 1, (0, 0, 0, 0), 0) := rfl
theorem s125_16 {c : Nat → List AV → SS → Option Out} {l0 l1 l2 l3 l4 : Option AV} {x : Int32} {L2 : List (Nat × AV)} {St : List AV} {S : SS} : ev c 125 16 [l0, l1, l2, l3, l4] L2 [aI x] S = some (.inl (some (aI x)), S) := ev_end i125_16 rfl
theorem i125_19 : insAt 125 19 = some (.iconst 2, 1, (0, 0, 0, 0), 0) := rfl
theorem s125_19 {c : Nat → List AV → SS → Option Out} {l0 l1 l2 l3 l4 : Option AV} {L2 : List (Nat × AV)} {St : List AV} {S : SS} : ev c 125 19 [l0, l1, l2, l3, l4] L2 St S = ev c 125 20 [l0, l1, l2, l3, l4] L2 (aI 2 :: St) S := ev_go i125_19 rfl
theorem i125_20 : insAt 125 20 = some (.ireturn, 1, (0, 0, 0, 0), 0) := rfl
theorem s125_20 {c : Nat → List AV → SS → Option Out} {l0 l1 l2 l3 l4 : Option AV} {x : Int32} {L2 : List (Nat × AV)} {St : List AV} {S : SS} : ev c 125 20 [l0, l1, l2, l3, l4] L2 [aI x] S = some (.inl (some (aI x)), S) := ev_end i125_20 rfl
theorem i125_21 : insAt 125 21 = some (.iconst 0, 1, (0, 0, 0, 0), 0) := rfl
theorem s125_21 {c : Nat → List AV → SS → Option Out} {l0 l1 l2 l3 l4 : Option AV} {L2 : List (Nat × AV)} {St : List AV} {S : SS} : ev c 125 21 [l0, l1, l2, l3, l4] L2 St S = ev c 125 22 [l0, l1, l2, l3, l4] L2 (aI 0 :: St) S := ev_go i125_21 rfl
theorem i125_22 : insAt 125 22 = some (.ireturn, 1, (0, 0, 0, 0), 0) := rfl
theorem s125_22 {c : Nat → List AV → SS → Option Out} {l0 l1 l2 l3 l4 : Option AV} {x : Int32} {L2 : List (Nat × AV)} {St : List AV} {S : SS} : ev c 125 22 [l0, l1, l2, l3, l4] L2 [aI x] S = some (.inl (some (aI x)), S) := ev_end i125_22 rfl
theorem m125 {d : Nat} {a0 : OId} {a1 : Int32} {a2 : Int32} {a3 : OId} {S : SS} : evm (d + 1) 125 [aR a0, aI a1, aI a2, aR a3] S = ev (evm d) 125 0 [some (aR a0), some (aI a1), some (aI a2), some (aR a3), none] [] [] S := evm_s (n := 5) rfl (Nat.le_of_ble_eq_true rfl) rfl rfl
/-! FrequencyOfficeLaw.separation(LFrequencyOffice;II[J)I -/
theorem i127_0 : insAt 127 0 = some (.aload_n 3, 1, (0, 0, 0, 0), 0) := rfl
theorem s127_0 {c : Nat → List AV → SS → Option Out} {l0 l1 l2 l4 : Option AV} {o : OId} {L2 : List (Nat × AV)} {St : List AV} {S : SS} : ev c 127 0 [l0, l1, l2, some (aR o), l4] L2 St S = ev c 127 1 [l0, l1, l2, some (aR o), l4] L2 (aR o :: St) S := ev_go i127_0 rfl
theorem i127_1 : insAt 127 1 = some (.iconst 0, 1, (0, 0, 0, 0), 0) := rfl
theorem s127_1 {c : Nat → List AV → SS → Option Out} {l0 l1 l2 l3 l4 : Option AV} {L2 : List (Nat × AV)} {St : List AV} {S : SS} : ev c 127 1 [l0, l1, l2, l3, l4] L2 St S = ev c 127 2 [l0, l1, l2, l3, l4] L2 (aI 0 :: St) S := ev_go i127_1 rfl
theorem i127_2 : insAt 127 2 = some (.aload_n 0, 1, (0, 0, 0, 0), 0) := rfl
theorem s127_2 {c : Nat → List AV → SS → Option Out} {l1 l2 l3 l4 : Option AV} {o : OId} {L2 : List (Nat × AV)} {St : List AV} {S : SS} : ev c 127 2 [some (aR o), l1, l2, l3, l4] L2 St S = ev c 127 3 [some (aR o), l1, l2, l3, l4] L2 (aR o :: St) S := ev_go i127_2 rfl
theorem i127_3 : insAt 127 3 = some (.iload_n 1, 1, (0, 0, 0, 0), 0) := rfl
theorem s127_3 {c : Nat → List AV → SS → Option Out} {l0 l2 l3 l4 : Option AV} {x : Int32} {L2 : List (Nat × AV)} {St : List AV} {S : SS} : ev c 127 3 [l0, some (aI x), l2, l3, l4] L2 St S = ev c 127 4 [l0, some (aI x), l2, l3, l4] L2 (aI x :: St) S := ev_go i127_3 rfl
theorem i127_4 : insAt 127 4 = some (.iload_n 2, 1, (0, 0, 0, 0), 0) := rfl
theorem s127_4 {c : Nat → List AV → SS → Option Out} {l0 l1 l3 l4 : Option AV} {x : Int32} {L2 : List (Nat × AV)} {St : List AV} {S : SS} : ev c 127 4 [l0, l1, some (aI x), l3, l4] L2 St S = ev c 127 5 [l0, l1, some (aI x), l3, l4] L2 (aI x :: St) S := ev_go i127_4 rfl
theorem i127_5 : insAt 127 5 = some (.invokevirtual 74, 3, (128, 2, 2, 11), 0) := rfl
theorem s127_5 {c : Nat → List AV → SS → Option Out} {l0 l1 l2 l3 l4 : Option AV} {t0 t1 : AV} {a0 : Int32} {a1 : Int32} {j t : Nat} {S : SS} : ev c 127 5 [l0, l1, l2, l3, l4] [] [aI a1, aI a0, aR (11, j, t), t0, t1] S = ckH [(0, 10, 15, 4, 3), (0, 10, 19, 4, 0)] 5 (c 128 [aR (11, j, t), aI a0, aI a1] S) (fun v S' => ev c 127 8 [l0, l1, l2, l3, l4] [] (v.toList ++ [t0, t1]) S') (fun a b S' => ev c 127 a ([l0, l1, l2, l3, l4].set b none) [] [] S') := ev_callH rfl (fun E a b h9 => hnd_lt (by decide) h9) i127_5 rfl
theorem i127_8 : insAt 127 8 = some (.i2l, 1, (0, 0, 0, 0), 0) := rfl
theorem s127_8 {c : Nat → List AV → SS → Option Out} {l0 l1 l2 l3 l4 : Option AV} {x : Int32} {L2 : List (Nat × AV)} {St : List AV} {S : SS} : ev c 127 8 [l0, l1, l2, l3, l4] L2 (aI x :: St) S = ev c 127 9 [l0, l1, l2, l3, l4] L2 (aL x.toInt64 :: St) S := ev_go i127_8 rfl
theorem i127_9 : insAt 127 9 = some (.lastore, 1, (0, 0, 0, 0), 0) := rfl
theorem s127_9 {c : Nat → List AV → SS → Option Out} {l0 l1 l2 l3 l4 : Option AV} {x : Int64} {i : Int32} {o : OId} {L2 : List (Nat × AV)} {St : List AV} {S : SS} : ev c 127 9 [l0, l1, l2, l3, l4] L2 (aL x :: aI i :: aR o :: St) S = kJ o i (ev c 127 10 [l0, l1, l2, l3, l4] L2 St (S.1, setV S.2.1 o i.toNatClampNeg (aL x), S.2.2)) := ev_lastore i127_9
theorem i127_10 : insAt 127 10 = some (.goto 11, 3, (0, 0, 0, 0), 0) := rfl
theorem s127_10 {c : Nat → List AV → SS → Option Out} {l0 l1 l2 l3 l4 : Option AV} {L2 : List (Nat × AV)} {St : List AV} {S : SS} : ev c 127 10 [l0, l1, l2, l3, l4] L2 St S = ev c 127 21 [l0, l1, l2, l3, l4] L2 St S := ev_go i127_10 rfl
theorem i127_15 : insAt 127 15 = some (.iconst 1, 1, (0, 0, 0, 0), 0) := rfl
theorem s127_15 {c : Nat → List AV → SS → Option Out} {l0 l1 l2 l3 l4 : Option AV} {L2 : List (Nat × AV)} {St : List AV} {S : SS} : ev c 127 15 [l0, l1, l2, l3, l4] L2 St S = ev c 127 16 [l0, l1, l2, l3, l4] L2 (aI 1 :: St) S := ev_go i127_15 rfl
theorem i127_16 : insAt 127 16 = some (.ireturn, 1, (0, 0, 0, 0), 0) := rfl
theorem s127_16 {c : Nat → List AV → SS → Option Out} {l0 l1 l2 l3 l4 : Option AV} {x : Int32} {L2 : List (Nat × AV)} {St : List AV} {S : SS} : ev c 127 16 [l0, l1, l2, l3, l4] L2 [aI x] S = some (.inl (some (aI x)), S) := ev_end i127_16 rfl
theorem i127_19 : insAt 127 19 = some (.iconst 2, 1, (0, 0, 0, 0), 0) := rfl
theorem s127_19 {c : Nat → List AV → SS → Option Out} {l0 l1 l2 l3 l4 : Option AV} {L2 : List (Nat × AV)} {St : List AV} {S : SS} : ev c 127 19 [l0, l1, l2, l3, l4] L2 St S = ev c 127 20 [l0, l1, l2, l3, l4] L2 (aI 2 :: St) S := ev_go i127_19 rfl
theorem i127_20 : insAt 127 20 = some (.ireturn, 1, (0, 0, 0, 0), 0) := rfl
theorem s127_20 {c : Nat → List AV → SS → Option Out} {l0 l1 l2 l3 l4 : Option AV} {x : Int32} {L2 : List (Nat × AV)} {St : List AV} {S : SS} : ev c 127 20 [l0, l1, l2, l3, l4] L2 [aI x] S = some (.inl (some (aI x)), S) := ev_end i127_20 rfl
theorem i127_21 : insAt 127 21 = some (.iconst 0, 1, (0, 0, 0, 0), 0) := rfl
theorem s127_21 {c : Nat → List AV → SS → Option Out} {l0 l1 l2 l3 l4 : Option AV} {L2 : List (Nat × AV)} {St : List AV} {S : SS} : ev c 127 21 [l0, l1, l2, l3, l4] L2 St S = ev c 127 22 [l0, l1, l2, l3, l4] L2 (aI 0 :: St) S := ev_go i127_21 rfl
theorem i127_22 : insAt 127 22 = some (.ireturn, 1, (0, 0, 0, 0), 0) := rfl
theorem s127_22 {c : Nat → List AV → SS → Option Out} {l0 l1 l2 l3 l4 : Option AV} {x : Int32} {L2 : List (Nat × AV)} {St : List AV} {S : SS} : ev c 127 22 [l0, l1, l2, l3, l4] L2 [aI x] S = some (.inl (some (aI x)), S) := ev_end i127_22 rfl
theorem m127 {d : Nat} {a0 : OId} {a1 : Int32} {a2 : Int32} {a3 : OId} {S : SS} : evm (d + 1) 127 [aR a0, aI a1, aI a2, aR a3] S = ev (evm d) 127 0 [some (aR a0), some (aI a1), some (aI a2), some (aR a3), none] [] [] S := evm_s (n := 5) rfl (Nat.le_of_ble_eq_true rfl) rfl rfl
/-! FrequencyOfficeLaw.margin(LFrequencyOffice;II[J)I -/
theorem i129_0 : insAt 129 0 = some (.aload_n 3, 1, (0, 0, 0, 0), 0) := rfl
theorem s129_0 {c : Nat → List AV → SS → Option Out} {l0 l1 l2 l4 : Option AV} {o : OId} {L2 : List (Nat × AV)} {St : List AV} {S : SS} : ev c 129 0 [l0, l1, l2, some (aR o), l4] L2 St S = ev c 129 1 [l0, l1, l2, some (aR o), l4] L2 (aR o :: St) S := ev_go i129_0 rfl
theorem i129_1 : insAt 129 1 = some (.iconst 0, 1, (0, 0, 0, 0), 0) := rfl
theorem s129_1 {c : Nat → List AV → SS → Option Out} {l0 l1 l2 l3 l4 : Option AV} {L2 : List (Nat × AV)} {St : List AV} {S : SS} : ev c 129 1 [l0, l1, l2, l3, l4] L2 St S = ev c 129 2 [l0, l1, l2, l3, l4] L2 (aI 0 :: St) S := ev_go i129_1 rfl
theorem i129_2 : insAt 129 2 = some (.aload_n 0, 1, (0, 0, 0, 0), 0) := rfl
theorem s129_2 {c : Nat → List AV → SS → Option Out} {l1 l2 l3 l4 : Option AV} {o : OId} {L2 : List (Nat × AV)} {St : List AV} {S : SS} : ev c 129 2 [some (aR o), l1, l2, l3, l4] L2 St S = ev c 129 3 [some (aR o), l1, l2, l3, l4] L2 (aR o :: St) S := ev_go i129_2 rfl
theorem i129_3 : insAt 129 3 = some (.iload_n 1, 1, (0, 0, 0, 0), 0) := rfl
theorem s129_3 {c : Nat → List AV → SS → Option Out} {l0 l2 l3 l4 : Option AV} {x : Int32} {L2 : List (Nat × AV)} {St : List AV} {S : SS} : ev c 129 3 [l0, some (aI x), l2, l3, l4] L2 St S = ev c 129 4 [l0, some (aI x), l2, l3, l4] L2 (aI x :: St) S := ev_go i129_3 rfl
theorem i129_4 : insAt 129 4 = some (.iload_n 2, 1, (0, 0, 0, 0), 0) := rfl
theorem s129_4 {c : Nat → List AV → SS → Option Out} {l0 l1 l3 l4 : Option AV} {x : Int32} {L2 : List (Nat × AV)} {St : List AV} {S : SS} : ev c 129 4 [l0, l1, some (aI x), l3, l4] L2 St S = ev c 129 5 [l0, l1, some (aI x), l3, l4] L2 (aI x :: St) S := ev_go i129_4 rfl
theorem i129_5 : insAt 129 5 = some (.invokevirtual 77, 3, (130, 2, 2, 11), 0) := rfl
theorem s129_5 {c : Nat → List AV → SS → Option Out} {l0 l1 l2 l3 l4 : Option AV} {t0 t1 : AV} {a0 : Int32} {a1 : Int32} {j t : Nat} {S : SS} : ev c 129 5 [l0, l1, l2, l3, l4] [] [aI a1, aI a0, aR (11, j, t), t0, t1] S = ckH [(0, 10, 15, 4, 3), (0, 10, 19, 4, 0)] 5 (c 130 [aR (11, j, t), aI a0, aI a1] S) (fun v S' => ev c 129 8 [l0, l1, l2, l3, l4] [] (v.toList ++ [t0, t1]) S') (fun a b S' => ev c 129 a ([l0, l1, l2, l3, l4].set b none) [] [] S') := ev_callH rfl (fun E a b h9 => hnd_lt (by decide) h9) i129_5 rfl
theorem i129_8 : insAt 129 8 = some (.i2l, 1, (0, 0, 0, 0), 0) := rfl
theorem s129_8 {c : Nat → List AV → SS → Option Out} {l0 l1 l2 l3 l4 : Option AV} {x : Int32} {L2 : List (Nat × AV)} {St : List AV} {S : SS} : ev c 129 8 [l0, l1, l2, l3, l4] L2 (aI x :: St) S = ev c 129 9 [l0, l1, l2, l3, l4] L2 (aL x.toInt64 :: St) S := ev_go i129_8 rfl
theorem i129_9 : insAt 129 9 = some (.lastore, 1, (0, 0, 0, 0), 0) := rfl
theorem s129_9 {c : Nat → List AV → SS → Option Out} {l0 l1 l2 l3 l4 : Option AV} {x : Int64} {i : Int32} {o : OId} {L2 : List (Nat × AV)} {St : List AV} {S : SS} : ev c 129 9 [l0, l1, l2, l3, l4] L2 (aL x :: aI i :: aR o :: St) S = kJ o i (ev c 129 10 [l0, l1, l2, l3, l4] L2 St (S.1, setV S.2.1 o i.toNatClampNeg (aL x), S.2.2)) := ev_lastore i129_9
theorem i129_10 : insAt 129 10 = some (.goto 11, 3, (0, 0, 0, 0), 0) := rfl
theorem s129_10 {c : Nat → List AV → SS → Option Out} {l0 l1 l2 l3 l4 : Option AV} {L2 : List (Nat × AV)} {St : List AV} {S : SS} : ev c 129 10 [l0, l1, l2, l3, l4] L2 St S = ev c 129 21 [l0, l1, l2, l3, l4] L2 St S := ev_go i129_10 rfl
theorem i129_15 : insAt 129 15 = some (.iconst 1, 1, (0, 0, 0, 0), 0) := rfl
theorem s129_15 {c : Nat → List AV → SS → Option Out} {l0 l1 l2 l3 l4 : Option AV} {L2 : List (Nat × AV)} {St : List AV} {S : SS} : ev c 129 15 [l0, l1, l2, l3, l4] L2 St S = ev c 129 16 [l0, l1, l2, l3, l4] L2 (aI 1 :: St) S := ev_go i129_15 rfl
theorem i129_16 : insAt 129 16 = some (.ireturn, 1, (0, 0, 0, 0), 0) := rfl
theorem s129_16 {c : Nat → List AV → SS → Option Out} {l0 l1 l2 l3 l4 : Option AV} {x : Int32} {L2 : List (Nat × AV)} {St : List AV} {S : SS} : ev c 129 16 [l0, l1, l2, l3, l4] L2 [aI x] S = some (.inl (some (aI x)), S) := ev_end i129_16 rfl
theorem i129_19 : insAt 129 19 = some (.iconst 2, 1, (0, 0, 0, 0), 0) := rfl
theorem s129_19 {c : Nat → List AV → SS → Option Out} {l0 l1 l2 l3 l4 : Option AV} {L2 : List (Nat × AV)} {St : List AV} {S : SS} : ev c 129 19 [l0, l1, l2, l3, l4] L2 St S = ev c 129 20 [l0, l1, l2, l3, l4] L2 (aI 2 :: St) S := ev_go i129_19 rfl
theorem i129_20 : insAt 129 20 = some (.ireturn, 1, (0, 0, 0, 0), 0) := rfl
theorem s129_20 {c : Nat → List AV → SS → Option Out} {l0 l1 l2 l3 l4 : Option AV} {x : Int32} {L2 : List (Nat × AV)} {St : List AV} {S : SS} : ev c 129 20 [l0, l1, l2, l3, l4] L2 [aI x] S = some (.inl (some (aI x)), S) := ev_end i129_20 rfl
theorem i129_21 : insAt 129 21 = some (.iconst 0, 1, (0, 0, 0, 0), 0) := rfl
theorem s129_21 {c : Nat → List AV → SS → Option Out} {l0 l1 l2 l3 l4 : Option AV} {L2 : List (Nat × AV)} {St : List AV} {S : SS} : ev c 129 21 [l0, l1, l2, l3, l4] L2 St S = ev c 129 22 [l0, l1, l2, l3, l4] L2 (aI 0 :: St) S := ev_go i129_21 rfl
theorem i129_22 : insAt 129 22 = some (.ireturn, 1, (0, 0, 0, 0), 0) := rfl
theorem s129_22 {c : Nat → List AV → SS → Option Out} {l0 l1 l2 l3 l4 : Option AV} {x : Int32} {L2 : List (Nat × AV)} {St : List AV} {S : SS} : ev c 129 22 [l0, l1, l2, l3, l4] L2 [aI x] S = some (.inl (some (aI x)), S) := ev_end i129_22 rfl
theorem m129 {d : Nat} {a0 : OId} {a1 : Int32} {a2 : Int32} {a3 : OId} {S : SS} : evm (d + 1) 129 [aR a0, aI a1, aI a2, aR a3] S = ev (evm d) 129 0 [some (aR a0), some (aI a1), some (aI a2), some (aR a3), none] [] [] S := evm_s (n := 5) rfl (Nat.le_of_ble_eq_true rfl) rfl rfl
/-! FrequencyOfficeLaw.conflictsAt(LFrequencyOffice;III[J)I -/
theorem i131_0 : insAt 131 0 = some (.aload 4, 2, (0, 0, 0, 0), 0) := rfl
theorem s131_0 {c : Nat → List AV → SS → Option Out} {l0 l1 l2 l3 l5 : Option AV} {o : OId} {L2 : List (Nat × AV)} {St : List AV} {S : SS} : ev c 131 0 [l0, l1, l2, l3, some (aR o), l5] L2 St S = ev c 131 2 [l0, l1, l2, l3, some (aR o), l5] L2 (aR o :: St) S := ev_go i131_0 rfl
theorem i131_2 : insAt 131 2 = some (.iconst 0, 1, (0, 0, 0, 0), 0) := rfl
theorem s131_2 {c : Nat → List AV → SS → Option Out} {l0 l1 l2 l3 l4 l5 : Option AV} {L2 : List (Nat × AV)} {St : List AV} {S : SS} : ev c 131 2 [l0, l1, l2, l3, l4, l5] L2 St S = ev c 131 3 [l0, l1, l2, l3, l4, l5] L2 (aI 0 :: St) S := ev_go i131_2 rfl
theorem i131_3 : insAt 131 3 = some (.aload_n 0, 1, (0, 0, 0, 0), 0) := rfl
theorem s131_3 {c : Nat → List AV → SS → Option Out} {l1 l2 l3 l4 l5 : Option AV} {o : OId} {L2 : List (Nat × AV)} {St : List AV} {S : SS} : ev c 131 3 [some (aR o), l1, l2, l3, l4, l5] L2 St S = ev c 131 4 [some (aR o), l1, l2, l3, l4, l5] L2 (aR o :: St) S := ev_go i131_3 rfl
theorem i131_4 : insAt 131 4 = some (.iload_n 1, 1, (0, 0, 0, 0), 0) := rfl
theorem s131_4 {c : Nat → List AV → SS → Option Out} {l0 l2 l3 l4 l5 : Option AV} {x : Int32} {L2 : List (Nat × AV)} {St : List AV} {S : SS} : ev c 131 4 [l0, some (aI x), l2, l3, l4, l5] L2 St S = ev c 131 5 [l0, some (aI x), l2, l3, l4, l5] L2 (aI x :: St) S := ev_go i131_4 rfl
theorem i131_5 : insAt 131 5 = some (.iload_n 2, 1, (0, 0, 0, 0), 0) := rfl
theorem s131_5 {c : Nat → List AV → SS → Option Out} {l0 l1 l3 l4 l5 : Option AV} {x : Int32} {L2 : List (Nat × AV)} {St : List AV} {S : SS} : ev c 131 5 [l0, l1, some (aI x), l3, l4, l5] L2 St S = ev c 131 6 [l0, l1, some (aI x), l3, l4, l5] L2 (aI x :: St) S := ev_go i131_5 rfl
theorem i131_6 : insAt 131 6 = some (.iload_n 3, 1, (0, 0, 0, 0), 0) := rfl
theorem s131_6 {c : Nat → List AV → SS → Option Out} {l0 l1 l2 l4 l5 : Option AV} {x : Int32} {L2 : List (Nat × AV)} {St : List AV} {S : SS} : ev c 131 6 [l0, l1, l2, some (aI x), l4, l5] L2 St S = ev c 131 7 [l0, l1, l2, some (aI x), l4, l5] L2 (aI x :: St) S := ev_go i131_6 rfl
theorem i131_7 : insAt 131 7 = some (.invokevirtual 80, 3, (132, 3, 2, 11), 0) := rfl
theorem s131_7 {c : Nat → List AV → SS → Option Out} {l0 l1 l2 l3 l4 l5 : Option AV} {t0 t1 : AV} {a0 : Int32} {a1 : Int32} {a2 : Int32} {j t : Nat} {S : SS} : ev c 131 7 [l0, l1, l2, l3, l4, l5] [] [aI a2, aI a1, aI a0, aR (11, j, t), t0, t1] S = ckH [(0, 12, 17, 5, 0)] 7 (c 132 [aR (11, j, t), aI a0, aI a1, aI a2] S) (fun v S' => ev c 131 10 [l0, l1, l2, l3, l4, l5] [] (v.toList ++ [t0, t1]) S') (fun a b S' => ev c 131 a ([l0, l1, l2, l3, l4, l5].set b none) [] [] S') := ev_callH rfl (fun E a b h9 => hnd_lt (by decide) h9) i131_7 rfl
theorem i131_10 : insAt 131 10 = some (.i2l, 1, (0, 0, 0, 0), 0) := rfl
theorem s131_10 {c : Nat → List AV → SS → Option Out} {l0 l1 l2 l3 l4 l5 : Option AV} {x : Int32} {L2 : List (Nat × AV)} {St : List AV} {S : SS} : ev c 131 10 [l0, l1, l2, l3, l4, l5] L2 (aI x :: St) S = ev c 131 11 [l0, l1, l2, l3, l4, l5] L2 (aL x.toInt64 :: St) S := ev_go i131_10 rfl
theorem i131_11 : insAt 131 11 = some (.lastore, 1, (0, 0, 0, 0), 0) := rfl
theorem s131_11 {c : Nat → List AV → SS → Option Out} {l0 l1 l2 l3 l4 l5 : Option AV} {x : Int64} {i : Int32} {o : OId} {L2 : List (Nat × AV)} {St : List AV} {S : SS} : ev c 131 11 [l0, l1, l2, l3, l4, l5] L2 (aL x :: aI i :: aR o :: St) S = kJ o i (ev c 131 12 [l0, l1, l2, l3, l4, l5] L2 St (S.1, setV S.2.1 o i.toNatClampNeg (aL x), S.2.2)) := ev_lastore i131_11
theorem i131_12 : insAt 131 12 = some (.goto 7, 3, (0, 0, 0, 0), 0) := rfl
theorem s131_12 {c : Nat → List AV → SS → Option Out} {l0 l1 l2 l3 l4 l5 : Option AV} {L2 : List (Nat × AV)} {St : List AV} {S : SS} : ev c 131 12 [l0, l1, l2, l3, l4, l5] L2 St S = ev c 131 19 [l0, l1, l2, l3, l4, l5] L2 St S := ev_go i131_12 rfl
theorem i131_17 : insAt 131 17 = some (.iconst 1, 1, (0, 0, 0, 0), 0) := rfl
theorem s131_17 {c : Nat → List AV → SS → Option Out} {l0 l1 l2 l3 l4 l5 : Option AV} {L2 : List (Nat × AV)} {St : List AV} {S : SS} : ev c 131 17 [l0, l1, l2, l3, l4, l5] L2 St S = ev c 131 18 [l0, l1, l2, l3, l4, l5] L2 (aI 1 :: St) S := ev_go i131_17 rfl
theorem i131_18 : insAt 131 18 = some (.ireturn, 1, (0, 0, 0, 0), 0) := rfl
theorem s131_18 {c : Nat → List AV → SS → Option Out} {l0 l1 l2 l3 l4 l5 : Option AV} {x : Int32} {L2 : List (Nat × AV)} {St : List AV} {S : SS} : ev c 131 18 [l0, l1, l2, l3, l4, l5] L2 [aI x] S = some (.inl (some (aI x)), S) := ev_end i131_18 rfl
theorem i131_19 : insAt 131 19 = some (.iconst 0, 1, (0, 0, 0, 0), 0) := rfl
theorem s131_19 {c : Nat → List AV → SS → Option Out} {l0 l1 l2 l3 l4 l5 : Option AV} {L2 : List (Nat × AV)} {St : List AV} {S : SS} : ev c 131 19 [l0, l1, l2, l3, l4, l5] L2 St S = ev c 131 20 [l0, l1, l2, l3, l4, l5] L2 (aI 0 :: St) S := ev_go i131_19 rfl
theorem i131_20 : insAt 131 20 = some (.ireturn, 1, (0, 0, 0, 0), 0) := rfl
theorem s131_20 {c : Nat → List AV → SS → Option Out} {l0 l1 l2 l3 l4 l5 : Option AV} {x : Int32} {L2 : List (Nat × AV)} {St : List AV} {S : SS} : ev c 131 20 [l0, l1, l2, l3, l4, l5] L2 [aI x] S = some (.inl (some (aI x)), S) := ev_end i131_20 rfl
theorem m131 {d : Nat} {a0 : OId} {a1 : Int32} {a2 : Int32} {a3 : Int32} {a4 : OId} {S : SS} : evm (d + 1) 131 [aR a0, aI a1, aI a2, aI a3, aR a4] S = ev (evm d) 131 0 [some (aR a0), some (aI a1), some (aI a2), some (aI a3), some (aR a4), none] [] [] S := evm_s (n := 6) rfl (Nat.le_of_ble_eq_true rfl) rfl rfl
/-! FrequencyOfficeLaw.disturbanceAt(LFrequencyOffice;III[J)I -/
theorem i134_0 : insAt 134 0 = some (.aload 4, 2, (0, 0, 0, 0), 0) := rfl
theorem s134_0 {c : Nat → List AV → SS → Option Out} {l0 l1 l2 l3 l5 : Option AV} {o : OId} {L2 : List (Nat × AV)} {St : List AV} {S : SS} : ev c 134 0 [l0, l1, l2, l3, some (aR o), l5] L2 St S = ev c 134 2 [l0, l1, l2, l3, some (aR o), l5] L2 (aR o :: St) S := ev_go i134_0 rfl
theorem i134_2 : insAt 134 2 = some (.iconst 0, 1, (0, 0, 0, 0), 0) := rfl
theorem s134_2 {c : Nat → List AV → SS → Option Out} {l0 l1 l2 l3 l4 l5 : Option AV} {L2 : List (Nat × AV)} {St : List AV} {S : SS} : ev c 134 2 [l0, l1, l2, l3, l4, l5] L2 St S = ev c 134 3 [l0, l1, l2, l3, l4, l5] L2 (aI 0 :: St) S := ev_go i134_2 rfl
theorem i134_3 : insAt 134 3 = some (.aload_n 0, 1, (0, 0, 0, 0), 0) := rfl
theorem s134_3 {c : Nat → List AV → SS → Option Out} {l1 l2 l3 l4 l5 : Option AV} {o : OId} {L2 : List (Nat × AV)} {St : List AV} {S : SS} : ev c 134 3 [some (aR o), l1, l2, l3, l4, l5] L2 St S = ev c 134 4 [some (aR o), l1, l2, l3, l4, l5] L2 (aR o :: St) S := ev_go i134_3 rfl
theorem i134_4 : insAt 134 4 = some (.iload_n 1, 1, (0, 0, 0, 0), 0) := rfl
theorem s134_4 {c : Nat → List AV → SS → Option Out} {l0 l2 l3 l4 l5 : Option AV} {x : Int32} {L2 : List (Nat × AV)} {St : List AV} {S : SS} : ev c 134 4 [l0, some (aI x), l2, l3, l4, l5] L2 St S = ev c 134 5 [l0, some (aI x), l2, l3, l4, l5] L2 (aI x :: St) S := ev_go i134_4 rfl
theorem i134_5 : insAt 134 5 = some (.iload_n 2, 1, (0, 0, 0, 0), 0) := rfl
theorem s134_5 {c : Nat → List AV → SS → Option Out} {l0 l1 l3 l4 l5 : Option AV} {x : Int32} {L2 : List (Nat × AV)} {St : List AV} {S : SS} : ev c 134 5 [l0, l1, some (aI x), l3, l4, l5] L2 St S = ev c 134 6 [l0, l1, some (aI x), l3, l4, l5] L2 (aI x :: St) S := ev_go i134_5 rfl
theorem i134_6 : insAt 134 6 = some (.iload_n 3, 1, (0, 0, 0, 0), 0) := rfl
theorem s134_6 {c : Nat → List AV → SS → Option Out} {l0 l1 l2 l4 l5 : Option AV} {x : Int32} {L2 : List (Nat × AV)} {St : List AV} {S : SS} : ev c 134 6 [l0, l1, l2, some (aI x), l4, l5] L2 St S = ev c 134 7 [l0, l1, l2, some (aI x), l4, l5] L2 (aI x :: St) S := ev_go i134_6 rfl
theorem i134_7 : insAt 134 7 = some (.invokevirtual 83, 3, (135, 3, 2, 11), 0) := rfl
theorem s134_7 {c : Nat → List AV → SS → Option Out} {l0 l1 l2 l3 l4 l5 : Option AV} {t0 t1 : AV} {a0 : Int32} {a1 : Int32} {a2 : Int32} {j t : Nat} {S : SS} : ev c 134 7 [l0, l1, l2, l3, l4, l5] [] [aI a2, aI a1, aI a0, aR (11, j, t), t0, t1] S = ckH [(0, 12, 17, 5, 0)] 7 (c 135 [aR (11, j, t), aI a0, aI a1, aI a2] S) (fun v S' => ev c 134 10 [l0, l1, l2, l3, l4, l5] [] (v.toList ++ [t0, t1]) S') (fun a b S' => ev c 134 a ([l0, l1, l2, l3, l4, l5].set b none) [] [] S') := ev_callH rfl (fun E a b h9 => hnd_lt (by decide) h9) i134_7 rfl
theorem i134_10 : insAt 134 10 = some (.i2l, 1, (0, 0, 0, 0), 0) := rfl
theorem s134_10 {c : Nat → List AV → SS → Option Out} {l0 l1 l2 l3 l4 l5 : Option AV} {x : Int32} {L2 : List (Nat × AV)} {St : List AV} {S : SS} : ev c 134 10 [l0, l1, l2, l3, l4, l5] L2 (aI x :: St) S = ev c 134 11 [l0, l1, l2, l3, l4, l5] L2 (aL x.toInt64 :: St) S := ev_go i134_10 rfl
theorem i134_11 : insAt 134 11 = some (.lastore, 1, (0, 0, 0, 0), 0) := rfl
theorem s134_11 {c : Nat → List AV → SS → Option Out} {l0 l1 l2 l3 l4 l5 : Option AV} {x : Int64} {i : Int32} {o : OId} {L2 : List (Nat × AV)} {St : List AV} {S : SS} : ev c 134 11 [l0, l1, l2, l3, l4, l5] L2 (aL x :: aI i :: aR o :: St) S = kJ o i (ev c 134 12 [l0, l1, l2, l3, l4, l5] L2 St (S.1, setV S.2.1 o i.toNatClampNeg (aL x), S.2.2)) := ev_lastore i134_11
theorem i134_12 : insAt 134 12 = some (.goto 7, 3, (0, 0, 0, 0), 0) := rfl
theorem s134_12 {c : Nat → List AV → SS → Option Out} {l0 l1 l2 l3 l4 l5 : Option AV} {L2 : List (Nat × AV)} {St : List AV} {S : SS} : ev c 134 12 [l0, l1, l2, l3, l4, l5] L2 St S = ev c 134 19 [l0, l1, l2, l3, l4, l5] L2 St S := ev_go i134_12 rfl
theorem i134_17 : insAt 134 17 = some (.iconst 1, 1, (0, 0, 0, 0), 0) := rfl
theorem s134_17 {c : Nat → List AV → SS → Option Out} {l0 l1 l2 l3 l4 l5 : Option AV} {L2 : List (Nat × AV)} {St : List AV} {S : SS} : ev c 134 17 [l0, l1, l2, l3, l4, l5] L2 St S = ev c 134 18 [l0, l1, l2, l3, l4, l5] L2 (aI 1 :: St) S := ev_go i134_17 rfl
theorem i134_18 : insAt 134 18 = some (.ireturn, 1, (0, 0, 0, 0), 0) := rfl
theorem s134_18 {c : Nat → List AV → SS → Option Out} {l0 l1 l2 l3 l4 l5 : Option AV} {x : Int32} {L2 : List (Nat × AV)} {St : List AV} {S : SS} : ev c 134 18 [l0, l1, l2, l3, l4, l5] L2 [aI x] S = some (.inl (some (aI x)), S) := ev_end i134_18 rfl
theorem i134_19 : insAt 134 19 = some (.iconst 0, 1, (0, 0, 0, 0), 0) := rfl
theorem s134_19 {c : Nat → List AV → SS → Option Out} {l0 l1 l2 l3 l4 l5 : Option AV} {L2 : List (Nat × AV)} {St : List AV} {S : SS} : ev c 134 19 [l0, l1, l2, l3, l4, l5] L2 St S = ev c 134 20 [l0, l1, l2, l3, l4, l5] L2 (aI 0 :: St) S := ev_go i134_19 rfl
theorem i134_20 : insAt 134 20 = some (.ireturn, 1, (0, 0, 0, 0), 0) := rfl
theorem s134_20 {c : Nat → List AV → SS → Option Out} {l0 l1 l2 l3 l4 l5 : Option AV} {x : Int32} {L2 : List (Nat × AV)} {St : List AV} {S : SS} : ev c 134 20 [l0, l1, l2, l3, l4, l5] L2 [aI x] S = some (.inl (some (aI x)), S) := ev_end i134_20 rfl
theorem m134 {d : Nat} {a0 : OId} {a1 : Int32} {a2 : Int32} {a3 : Int32} {a4 : OId} {S : SS} : evm (d + 1) 134 [aR a0, aI a1, aI a2, aI a3, aR a4] S = ev (evm d) 134 0 [some (aR a0), some (aI a1), some (aI a2), some (aI a3), some (aR a4), none] [] [] S := evm_s (n := 6) rfl (Nat.le_of_ble_eq_true rfl) rfl rfl
/-! FrequencyOfficeLaw.meanDisturbance(LFrequencyOffice;[D)I -/
theorem i136_0 : insAt 136 0 = some (.aload_n 1, 1, (0, 0, 0, 0), 0) := rfl
theorem s136_0 {c : Nat → List AV → SS → Option Out} {l0 l2 : Option AV} {o : OId} {L2 : List (Nat × AV)} {St : List AV} {S : SS} : ev c 136 0 [l0, some (aR o), l2] L2 St S = ev c 136 1 [l0, some (aR o), l2] L2 (aR o :: St) S := ev_go i136_0 rfl
theorem i136_1 : insAt 136 1 = some (.iconst 0, 1, (0, 0, 0, 0), 0) := rfl
theorem s136_1 {c : Nat → List AV → SS → Option Out} {l0 l1 l2 : Option AV} {L2 : List (Nat × AV)} {St : List AV} {S : SS} : ev c 136 1 [l0, l1, l2] L2 St S = ev c 136 2 [l0, l1, l2] L2 (aI 0 :: St) S := ev_go i136_1 rfl
theorem i136_2 : insAt 136 2 = some (.aload_n 0, 1, (0, 0, 0, 0), 0) := rfl
theorem s136_2 {c : Nat → List AV → SS → Option Out} {l1 l2 : Option AV} {o : OId} {L2 : List (Nat × AV)} {St : List AV} {S : SS} : ev c 136 2 [some (aR o), l1, l2] L2 St S = ev c 136 3 [some (aR o), l1, l2] L2 (aR o :: St) S := ev_go i136_2 rfl
theorem i136_3 : insAt 136 3 = some (.invokevirtual 86, 3, (137, 0, 2, 11), 0) := rfl
theorem s136_3 {c : Nat → List AV → SS → Option Out} {l0 l1 l2 : Option AV} {t0 t1 : AV} {j t : Nat} {S : SS} : ev c 136 3 [l0, l1, l2] [] [aR (11, j, t), t0, t1] S = ckH [(0, 8, 12, 2, 5)] 3 (c 137 [aR (11, j, t)] S) (fun v S' => ev c 136 6 [l0, l1, l2] [] (v.toList ++ [t0, t1]) S') (fun a b S' => ev c 136 a ([l0, l1, l2].set b none) [] [] S') := ev_callH rfl (fun E a b h9 => hnd_lt (by decide) h9) i136_3 rfl
theorem i136_6 : insAt 136 6 = some (.f2d, 1, (0, 0, 0, 0), 0) := rfl
theorem s136_6 {c : Nat → List AV → SS → Option Out} {l0 l1 l2 : Option AV} {x : UInt32} {L2 : List (Nat × AV)} {St : List AV} {S : SS} : ev c 136 6 [l0, l1, l2] L2 (aF x :: St) S = if FP.f2d x &&& 0x7fffffffffffffff ≤ 0x7ff0000000000000 then ev c 136 7 [l0, l1, l2] L2 (aD (FP.f2d x) :: St) S else none := ev_if i136_6 rfl
theorem i136_7 : insAt 136 7 = some (.dastore, 1, (0, 0, 0, 0), 0) := rfl
theorem s136_7 {c : Nat → List AV → SS → Option Out} {l0 l1 l2 : Option AV} {x : UInt64} {i : Int32} {o : OId} {L2 : List (Nat × AV)} {St : List AV} {S : SS} : ev c 136 7 [l0, l1, l2] L2 (aD x :: aI i :: aR o :: St) S = kD o i (ev c 136 8 [l0, l1, l2] L2 St (S.1, setV S.2.1 o i.toNatClampNeg (aD x), S.2.2)) := ev_dastore i136_7
theorem i136_8 : insAt 136 8 = some (.goto 6, 3, (0, 0, 0, 0), 0) := rfl
theorem s136_8 {c : Nat → List AV → SS → Option Out} {l0 l1 l2 : Option AV} {L2 : List (Nat × AV)} {St : List AV} {S : SS} : ev c 136 8 [l0, l1, l2] L2 St S = ev c 136 14 [l0, l1, l2] L2 St S := ev_go i136_8 rfl
theorem i136_12 : insAt 136 12 = some (.iconst 1, 1, (0, 0, 0, 0), 0) := rfl
theorem s136_12 {c : Nat → List AV → SS → Option Out} {l0 l1 l2 : Option AV} {L2 : List (Nat × AV)} {St : List AV} {S : SS} : ev c 136 12 [l0, l1, l2] L2 St S = ev c 136 13 [l0, l1, l2] L2 (aI 1 :: St) S := ev_go i136_12 rfl
theorem i136_13 : insAt 136 13 = some (.ireturn, 1, (0, 0, 0, 0), 0) := rfl
theorem s136_13 {c : Nat → List AV → SS → Option Out} {l0 l1 l2 : Option AV} {x : Int32} {L2 : List (Nat × AV)} {St : List AV} {S : SS} : ev c 136 13 [l0, l1, l2] L2 [aI x] S = some (.inl (some (aI x)), S) := ev_end i136_13 rfl
theorem i136_14 : insAt 136 14 = some (.iconst 0, 1, (0, 0, 0, 0), 0) := rfl
theorem s136_14 {c : Nat → List AV → SS → Option Out} {l0 l1 l2 : Option AV} {L2 : List (Nat × AV)} {St : List AV} {S : SS} : ev c 136 14 [l0, l1, l2] L2 St S = ev c 136 15 [l0, l1, l2] L2 (aI 0 :: St) S := ev_go i136_14 rfl
theorem i136_15 : insAt 136 15 = some (.ireturn, 1, (0, 0, 0, 0), 0) := rfl
theorem s136_15 {c : Nat → List AV → SS → Option Out} {l0 l1 l2 : Option AV} {x : Int32} {L2 : List (Nat × AV)} {St : List AV} {S : SS} : ev c 136 15 [l0, l1, l2] L2 [aI x] S = some (.inl (some (aI x)), S) := ev_end i136_15 rfl
theorem m136 {d : Nat} {a0 : OId} {a1 : OId} {S : SS} : evm (d + 1) 136 [aR a0, aR a1] S = ev (evm d) 136 0 [some (aR a0), some (aR a1), none] [] [] S := evm_s (n := 3) rfl (Nat.le_of_ble_eq_true rfl) rfl rfl
/-! FrequencyOfficeLaw.openChannels(LFrequencyOffice;II[J)I -/
theorem i139_0 : insAt 139 0 = some (.aload_n 3, 1, (0, 0, 0, 0), 0) := rfl
theorem s139_0 {c : Nat → List AV → SS → Option Out} {l0 l1 l2 l4 : Option AV} {o : OId} {L2 : List (Nat × AV)} {St : List AV} {S : SS} : ev c 139 0 [l0, l1, l2, some (aR o), l4] L2 St S = ev c 139 1 [l0, l1, l2, some (aR o), l4] L2 (aR o :: St) S := ev_go i139_0 rfl
theorem i139_1 : insAt 139 1 = some (.iconst 0, 1, (0, 0, 0, 0), 0) := rfl
theorem s139_1 {c : Nat → List AV → SS → Option Out} {l0 l1 l2 l3 l4 : Option AV} {L2 : List (Nat × AV)} {St : List AV} {S : SS} : ev c 139 1 [l0, l1, l2, l3, l4] L2 St S = ev c 139 2 [l0, l1, l2, l3, l4] L2 (aI 0 :: St) S := ev_go i139_1 rfl
theorem i139_2 : insAt 139 2 = some (.aload_n 0, 1, (0, 0, 0, 0), 0) := rfl
theorem s139_2 {c : Nat → List AV → SS → Option Out} {l1 l2 l3 l4 : Option AV} {o : OId} {L2 : List (Nat × AV)} {St : List AV} {S : SS} : ev c 139 2 [some (aR o), l1, l2, l3, l4] L2 St S = ev c 139 3 [some (aR o), l1, l2, l3, l4] L2 (aR o :: St) S := ev_go i139_2 rfl
theorem i139_3 : insAt 139 3 = some (.iload_n 1, 1, (0, 0, 0, 0), 0) := rfl
theorem s139_3 {c : Nat → List AV → SS → Option Out} {l0 l2 l3 l4 : Option AV} {x : Int32} {L2 : List (Nat × AV)} {St : List AV} {S : SS} : ev c 139 3 [l0, some (aI x), l2, l3, l4] L2 St S = ev c 139 4 [l0, some (aI x), l2, l3, l4] L2 (aI x :: St) S := ev_go i139_3 rfl
theorem i139_4 : insAt 139 4 = some (.iload_n 2, 1, (0, 0, 0, 0), 0) := rfl
theorem s139_4 {c : Nat → List AV → SS → Option Out} {l0 l1 l3 l4 : Option AV} {x : Int32} {L2 : List (Nat × AV)} {St : List AV} {S : SS} : ev c 139 4 [l0, l1, some (aI x), l3, l4] L2 St S = ev c 139 5 [l0, l1, some (aI x), l3, l4] L2 (aI x :: St) S := ev_go i139_4 rfl
theorem i139_5 : insAt 139 5 = some (.invokevirtual 92, 3, (140, 2, 2, 11), 0) := rfl
theorem s139_5 {c : Nat → List AV → SS → Option Out} {l0 l1 l2 l3 l4 : Option AV} {t0 t1 : AV} {a0 : Int32} {a1 : Int32} {j t : Nat} {S : SS} : ev c 139 5 [l0, l1, l2, l3, l4] [] [aI a1, aI a0, aR (11, j, t), t0, t1] S = ckH [(0, 10, 15, 4, 0)] 5 (c 140 [aR (11, j, t), aI a0, aI a1] S) (fun v S' => ev c 139 8 [l0, l1, l2, l3, l4] [] (v.toList ++ [t0, t1]) S') (fun a b S' => ev c 139 a ([l0, l1, l2, l3, l4].set b none) [] [] S') := ev_callH rfl (fun E a b h9 => hnd_lt (by decide) h9) i139_5 rfl
theorem i139_8 : insAt 139 8 = some (.i2l, 1, (0, 0, 0, 0), 0) := rfl
theorem s139_8 {c : Nat → List AV → SS → Option Out} {l0 l1 l2 l3 l4 : Option AV} {x : Int32} {L2 : List (Nat × AV)} {St : List AV} {S : SS} : ev c 139 8 [l0, l1, l2, l3, l4] L2 (aI x :: St) S = ev c 139 9 [l0, l1, l2, l3, l4] L2 (aL x.toInt64 :: St) S := ev_go i139_8 rfl
theorem i139_9 : insAt 139 9 = some (.lastore, 1, (0, 0, 0, 0), 0) := rfl
theorem s139_9 {c : Nat → List AV → SS → Option Out} {l0 l1 l2 l3 l4 : Option AV} {x : Int64} {i : Int32} {o : OId} {L2 : List (Nat × AV)} {St : List AV} {S : SS} : ev c 139 9 [l0, l1, l2, l3, l4] L2 (aL x :: aI i :: aR o :: St) S = kJ o i (ev c 139 10 [l0, l1, l2, l3, l4] L2 St (S.1, setV S.2.1 o i.toNatClampNeg (aL x), S.2.2)) := ev_lastore i139_9
theorem i139_10 : insAt 139 10 = some (.goto 7, 3, (0, 0, 0, 0), 0) := rfl
theorem s139_10 {c : Nat → List AV → SS → Option Out} {l0 l1 l2 l3 l4 : Option AV} {L2 : List (Nat × AV)} {St : List AV} {S : SS} : ev c 139 10 [l0, l1, l2, l3, l4] L2 St S = ev c 139 17 [l0, l1, l2, l3, l4] L2 St S := ev_go i139_10 rfl
theorem i139_15 : insAt 139 15 = some (.iconst 1, 1, (0, 0, 0, 0), 0) := rfl
theorem s139_15 {c : Nat → List AV → SS → Option Out} {l0 l1 l2 l3 l4 : Option AV} {L2 : List (Nat × AV)} {St : List AV} {S : SS} : ev c 139 15 [l0, l1, l2, l3, l4] L2 St S = ev c 139 16 [l0, l1, l2, l3, l4] L2 (aI 1 :: St) S := ev_go i139_15 rfl
theorem i139_16 : insAt 139 16 = some (.ireturn, 1, (0, 0, 0, 0), 0) := rfl
theorem s139_16 {c : Nat → List AV → SS → Option Out} {l0 l1 l2 l3 l4 : Option AV} {x : Int32} {L2 : List (Nat × AV)} {St : List AV} {S : SS} : ev c 139 16 [l0, l1, l2, l3, l4] L2 [aI x] S = some (.inl (some (aI x)), S) := ev_end i139_16 rfl
theorem i139_17 : insAt 139 17 = some (.iconst 0, 1, (0, 0, 0, 0), 0) := rfl
theorem s139_17 {c : Nat → List AV → SS → Option Out} {l0 l1 l2 l3 l4 : Option AV} {L2 : List (Nat × AV)} {St : List AV} {S : SS} : ev c 139 17 [l0, l1, l2, l3, l4] L2 St S = ev c 139 18 [l0, l1, l2, l3, l4] L2 (aI 0 :: St) S := ev_go i139_17 rfl
theorem i139_18 : insAt 139 18 = some (.ireturn, 1, (0, 0, 0, 0), 0) := rfl
theorem s139_18 {c : Nat → List AV → SS → Option Out} {l0 l1 l2 l3 l4 : Option AV} {x : Int32} {L2 : List (Nat × AV)} {St : List AV} {S : SS} : ev c 139 18 [l0, l1, l2, l3, l4] L2 [aI x] S = some (.inl (some (aI x)), S) := ev_end i139_18 rfl
theorem m139 {d : Nat} {a0 : OId} {a1 : Int32} {a2 : Int32} {a3 : OId} {S : SS} : evm (d + 1) 139 [aR a0, aI a1, aI a2, aR a3] S = ev (evm d) 139 0 [some (aR a0), some (aI a1), some (aI a2), some (aR a3), none] [] [] S := evm_s (n := 5) rfl (Nat.le_of_ble_eq_true rfl) rfl rfl
/-! FrequencyOfficeLaw.movesFor(LFrequencyOffice;II[J)I -/
theorem i141_0 : insAt 141 0 = some (.aload_n 3, 1, (0, 0, 0, 0), 0) := rfl
theorem s141_0 {c : Nat → List AV → SS → Option Out} {l0 l1 l2 l4 : Option AV} {o : OId} {L2 : List (Nat × AV)} {St : List AV} {S : SS} : ev c 141 0 [l0, l1, l2, some (aR o), l4] L2 St S = ev c 141 1 [l0, l1, l2, some (aR o), l4] L2 (aR o :: St) S := ev_go i141_0 rfl
theorem i141_1 : insAt 141 1 = some (.iconst 0, 1, (0, 0, 0, 0), 0) := rfl
theorem s141_1 {c : Nat → List AV → SS → Option Out} {l0 l1 l2 l3 l4 : Option AV} {L2 : List (Nat × AV)} {St : List AV} {S : SS} : ev c 141 1 [l0, l1, l2, l3, l4] L2 St S = ev c 141 2 [l0, l1, l2, l3, l4] L2 (aI 0 :: St) S := ev_go i141_1 rfl
theorem i141_2 : insAt 141 2 = some (.aload_n 0, 1, (0, 0, 0, 0), 0) := rfl
theorem s141_2 {c : Nat → List AV → SS → Option Out} {l1 l2 l3 l4 : Option AV} {o : OId} {L2 : List (Nat × AV)} {St : List AV} {S : SS} : ev c 141 2 [some (aR o), l1, l2, l3, l4] L2 St S = ev c 141 3 [some (aR o), l1, l2, l3, l4] L2 (aR o :: St) S := ev_go i141_2 rfl
theorem i141_3 : insAt 141 3 = some (.iload_n 1, 1, (0, 0, 0, 0), 0) := rfl
theorem s141_3 {c : Nat → List AV → SS → Option Out} {l0 l2 l3 l4 : Option AV} {x : Int32} {L2 : List (Nat × AV)} {St : List AV} {S : SS} : ev c 141 3 [l0, some (aI x), l2, l3, l4] L2 St S = ev c 141 4 [l0, some (aI x), l2, l3, l4] L2 (aI x :: St) S := ev_go i141_3 rfl
theorem i141_4 : insAt 141 4 = some (.iload_n 2, 1, (0, 0, 0, 0), 0) := rfl
theorem s141_4 {c : Nat → List AV → SS → Option Out} {l0 l1 l3 l4 : Option AV} {x : Int32} {L2 : List (Nat × AV)} {St : List AV} {S : SS} : ev c 141 4 [l0, l1, some (aI x), l3, l4] L2 St S = ev c 141 5 [l0, l1, some (aI x), l3, l4] L2 (aI x :: St) S := ev_go i141_4 rfl
theorem i141_5 : insAt 141 5 = some (.invokevirtual 95, 3, (142, 2, 2, 11), 0) := rfl
theorem s141_5 {c : Nat → List AV → SS → Option Out} {l0 l1 l2 l3 l4 : Option AV} {t0 t1 : AV} {a0 : Int32} {a1 : Int32} {j t : Nat} {S : SS} : ev c 141 5 [l0, l1, l2, l3, l4] [] [aI a1, aI a0, aR (11, j, t), t0, t1] S = ckH [(0, 10, 15, 4, 0), (0, 10, 19, 4, 2)] 5 (c 142 [aR (11, j, t), aI a0, aI a1] S) (fun v S' => ev c 141 8 [l0, l1, l2, l3, l4] [] (v.toList ++ [t0, t1]) S') (fun a b S' => ev c 141 a ([l0, l1, l2, l3, l4].set b none) [] [] S') := ev_callH rfl (fun E a b h9 => hnd_lt (by decide) h9) i141_5 rfl
theorem i141_8 : insAt 141 8 = some (.i2l, 1, (0, 0, 0, 0), 0) := rfl
theorem s141_8 {c : Nat → List AV → SS → Option Out} {l0 l1 l2 l3 l4 : Option AV} {x : Int32} {L2 : List (Nat × AV)} {St : List AV} {S : SS} : ev c 141 8 [l0, l1, l2, l3, l4] L2 (aI x :: St) S = ev c 141 9 [l0, l1, l2, l3, l4] L2 (aL x.toInt64 :: St) S := ev_go i141_8 rfl
theorem i141_9 : insAt 141 9 = some (.lastore, 1, (0, 0, 0, 0), 0) := rfl
theorem s141_9 {c : Nat → List AV → SS → Option Out} {l0 l1 l2 l3 l4 : Option AV} {x : Int64} {i : Int32} {o : OId} {L2 : List (Nat × AV)} {St : List AV} {S : SS} : ev c 141 9 [l0, l1, l2, l3, l4] L2 (aL x :: aI i :: aR o :: St) S = kJ o i (ev c 141 10 [l0, l1, l2, l3, l4] L2 St (S.1, setV S.2.1 o i.toNatClampNeg (aL x), S.2.2)) := ev_lastore i141_9
theorem i141_10 : insAt 141 10 = some (.goto 11, 3, (0, 0, 0, 0), 0) := rfl
theorem s141_10 {c : Nat → List AV → SS → Option Out} {l0 l1 l2 l3 l4 : Option AV} {L2 : List (Nat × AV)} {St : List AV} {S : SS} : ev c 141 10 [l0, l1, l2, l3, l4] L2 St S = ev c 141 21 [l0, l1, l2, l3, l4] L2 St S := ev_go i141_10 rfl
theorem i141_15 : insAt 141 15 = some (.iconst 1, 1, (0, 0, 0, 0), 0) := rfl
theorem s141_15 {c : Nat → List AV → SS → Option Out} {l0 l1 l2 l3 l4 : Option AV} {L2 : List (Nat × AV)} {St : List AV} {S : SS} : ev c 141 15 [l0, l1, l2, l3, l4] L2 St S = ev c 141 16 [l0, l1, l2, l3, l4] L2 (aI 1 :: St) S := ev_go i141_15 rfl
theorem i141_16 : insAt 141 16 = some (.ireturn, 1, (0, 0, 0, 0), 0) := rfl
theorem s141_16 {c : Nat → List AV → SS → Option Out} {l0 l1 l2 l3 l4 : Option AV} {x : Int32} {L2 : List (Nat × AV)} {St : List AV} {S : SS} : ev c 141 16 [l0, l1, l2, l3, l4] L2 [aI x] S = some (.inl (some (aI x)), S) := ev_end i141_16 rfl
theorem i141_19 : insAt 141 19 = some (.iconst 2, 1, (0, 0, 0, 0), 0) := rfl
theorem s141_19 {c : Nat → List AV → SS → Option Out} {l0 l1 l2 l3 l4 : Option AV} {L2 : List (Nat × AV)} {St : List AV} {S : SS} : ev c 141 19 [l0, l1, l2, l3, l4] L2 St S = ev c 141 20 [l0, l1, l2, l3, l4] L2 (aI 2 :: St) S := ev_go i141_19 rfl
theorem i141_20 : insAt 141 20 = some (.ireturn, 1, (0, 0, 0, 0), 0) := rfl
theorem s141_20 {c : Nat → List AV → SS → Option Out} {l0 l1 l2 l3 l4 : Option AV} {x : Int32} {L2 : List (Nat × AV)} {St : List AV} {S : SS} : ev c 141 20 [l0, l1, l2, l3, l4] L2 [aI x] S = some (.inl (some (aI x)), S) := ev_end i141_20 rfl
theorem i141_21 : insAt 141 21 = some (.iconst 0, 1, (0, 0, 0, 0), 0) := rfl
theorem s141_21 {c : Nat → List AV → SS → Option Out} {l0 l1 l2 l3 l4 : Option AV} {L2 : List (Nat × AV)} {St : List AV} {S : SS} : ev c 141 21 [l0, l1, l2, l3, l4] L2 St S = ev c 141 22 [l0, l1, l2, l3, l4] L2 (aI 0 :: St) S := ev_go i141_21 rfl
theorem i141_22 : insAt 141 22 = some (.ireturn, 1, (0, 0, 0, 0), 0) := rfl
theorem s141_22 {c : Nat → List AV → SS → Option Out} {l0 l1 l2 l3 l4 : Option AV} {x : Int32} {L2 : List (Nat × AV)} {St : List AV} {S : SS} : ev c 141 22 [l0, l1, l2, l3, l4] L2 [aI x] S = some (.inl (some (aI x)), S) := ev_end i141_22 rfl
theorem m141 {d : Nat} {a0 : OId} {a1 : Int32} {a2 : Int32} {a3 : OId} {S : SS} : evm (d + 1) 141 [aR a0, aI a1, aI a2, aR a3] S = ev (evm d) 141 0 [some (aR a0), some (aI a1), some (aI a2), some (aR a3), none] [] [] S := evm_s (n := 5) rfl (Nat.le_of_ble_eq_true rfl) rfl rfl
/-! FrequencyOfficeLaw.movesForByQueue(LFrequencyOffice;II[J)I -/
theorem i143_0 : insAt 143 0 = some (.aload_n 3, 1, (0, 0, 0, 0), 0) := rfl
theorem s143_0 {c : Nat → List AV → SS → Option Out} {l0 l1 l2 l4 : Option AV} {o : OId} {L2 : List (Nat × AV)} {St : List AV} {S : SS} : ev c 143 0 [l0, l1, l2, some (aR o), l4] L2 St S = ev c 143 1 [l0, l1, l2, some (aR o), l4] L2 (aR o :: St) S := ev_go i143_0 rfl
theorem i143_1 : insAt 143 1 = some (.iconst 0, 1, (0, 0, 0, 0), 0) := rfl
theorem s143_1 {c : Nat → List AV → SS → Option Out} {l0 l1 l2 l3 l4 : Option AV} {L2 : List (Nat × AV)} {St : List AV} {S : SS} : ev c 143 1 [l0, l1, l2, l3, l4] L2 St S = ev c 143 2 [l0, l1, l2, l3, l4] L2 (aI 0 :: St) S := ev_go i143_1 rfl
theorem i143_2 : insAt 143 2 = some (.aload_n 0, 1, (0, 0, 0, 0), 0) := rfl
theorem s143_2 {c : Nat → List AV → SS → Option Out} {l1 l2 l3 l4 : Option AV} {o : OId} {L2 : List (Nat × AV)} {St : List AV} {S : SS} : ev c 143 2 [some (aR o), l1, l2, l3, l4] L2 St S = ev c 143 3 [some (aR o), l1, l2, l3, l4] L2 (aR o :: St) S := ev_go i143_2 rfl
theorem i143_3 : insAt 143 3 = some (.iload_n 1, 1, (0, 0, 0, 0), 0) := rfl
theorem s143_3 {c : Nat → List AV → SS → Option Out} {l0 l2 l3 l4 : Option AV} {x : Int32} {L2 : List (Nat × AV)} {St : List AV} {S : SS} : ev c 143 3 [l0, some (aI x), l2, l3, l4] L2 St S = ev c 143 4 [l0, some (aI x), l2, l3, l4] L2 (aI x :: St) S := ev_go i143_3 rfl
theorem i143_4 : insAt 143 4 = some (.iload_n 2, 1, (0, 0, 0, 0), 0) := rfl
theorem s143_4 {c : Nat → List AV → SS → Option Out} {l0 l1 l3 l4 : Option AV} {x : Int32} {L2 : List (Nat × AV)} {St : List AV} {S : SS} : ev c 143 4 [l0, l1, some (aI x), l3, l4] L2 St S = ev c 143 5 [l0, l1, some (aI x), l3, l4] L2 (aI x :: St) S := ev_go i143_4 rfl
theorem i143_5 : insAt 143 5 = some (.invokevirtual 98, 3, (144, 2, 2, 11), 0) := rfl
theorem s143_5 {c : Nat → List AV → SS → Option Out} {l0 l1 l2 l3 l4 : Option AV} {t0 t1 : AV} {a0 : Int32} {a1 : Int32} {j t : Nat} {S : SS} : ev c 143 5 [l0, l1, l2, l3, l4] [] [aI a1, aI a0, aR (11, j, t), t0, t1] S = ckH [(0, 10, 15, 4, 0), (0, 10, 19, 4, 2)] 5 (c 144 [aR (11, j, t), aI a0, aI a1] S) (fun v S' => ev c 143 8 [l0, l1, l2, l3, l4] [] (v.toList ++ [t0, t1]) S') (fun a b S' => ev c 143 a ([l0, l1, l2, l3, l4].set b none) [] [] S') := ev_callH rfl (fun E a b h9 => hnd_lt (by decide) h9) i143_5 rfl
theorem i143_8 : insAt 143 8 = some (.i2l, 1, (0, 0, 0, 0), 0) := rfl
theorem s143_8 {c : Nat → List AV → SS → Option Out} {l0 l1 l2 l3 l4 : Option AV} {x : Int32} {L2 : List (Nat × AV)} {St : List AV} {S : SS} : ev c 143 8 [l0, l1, l2, l3, l4] L2 (aI x :: St) S = ev c 143 9 [l0, l1, l2, l3, l4] L2 (aL x.toInt64 :: St) S := ev_go i143_8 rfl
theorem i143_9 : insAt 143 9 = some (.lastore, 1, (0, 0, 0, 0), 0) := rfl
theorem s143_9 {c : Nat → List AV → SS → Option Out} {l0 l1 l2 l3 l4 : Option AV} {x : Int64} {i : Int32} {o : OId} {L2 : List (Nat × AV)} {St : List AV} {S : SS} : ev c 143 9 [l0, l1, l2, l3, l4] L2 (aL x :: aI i :: aR o :: St) S = kJ o i (ev c 143 10 [l0, l1, l2, l3, l4] L2 St (S.1, setV S.2.1 o i.toNatClampNeg (aL x), S.2.2)) := ev_lastore i143_9
theorem i143_10 : insAt 143 10 = some (.goto 11, 3, (0, 0, 0, 0), 0) := rfl
theorem s143_10 {c : Nat → List AV → SS → Option Out} {l0 l1 l2 l3 l4 : Option AV} {L2 : List (Nat × AV)} {St : List AV} {S : SS} : ev c 143 10 [l0, l1, l2, l3, l4] L2 St S = ev c 143 21 [l0, l1, l2, l3, l4] L2 St S := ev_go i143_10 rfl
theorem i143_15 : insAt 143 15 = some (.iconst 1, 1, (0, 0, 0, 0), 0) := rfl
theorem s143_15 {c : Nat → List AV → SS → Option Out} {l0 l1 l2 l3 l4 : Option AV} {L2 : List (Nat × AV)} {St : List AV} {S : SS} : ev c 143 15 [l0, l1, l2, l3, l4] L2 St S = ev c 143 16 [l0, l1, l2, l3, l4] L2 (aI 1 :: St) S := ev_go i143_15 rfl
theorem i143_16 : insAt 143 16 = some (.ireturn, 1, (0, 0, 0, 0), 0) := rfl
theorem s143_16 {c : Nat → List AV → SS → Option Out} {l0 l1 l2 l3 l4 : Option AV} {x : Int32} {L2 : List (Nat × AV)} {St : List AV} {S : SS} : ev c 143 16 [l0, l1, l2, l3, l4] L2 [aI x] S = some (.inl (some (aI x)), S) := ev_end i143_16 rfl
theorem i143_19 : insAt 143 19 = some (.iconst 2, 1, (0, 0, 0, 0), 0) := rfl
theorem s143_19 {c : Nat → List AV → SS → Option Out} {l0 l1 l2 l3 l4 : Option AV} {L2 : List (Nat × AV)} {St : List AV} {S : SS} : ev c 143 19 [l0, l1, l2, l3, l4] L2 St S = ev c 143 20 [l0, l1, l2, l3, l4] L2 (aI 2 :: St) S := ev_go i143_19 rfl
theorem i143_20 : insAt 143 20 = some (.ireturn, 1, (0, 0, 0, 0), 0) := rfl
theorem s143_20 {c : Nat → List AV → SS → Option Out} {l0 l1 l2 l3 l4 : Option AV} {x : Int32} {L2 : List (Nat × AV)} {St : List AV} {S : SS} : ev c 143 20 [l0, l1, l2, l3, l4] L2 [aI x] S = some (.inl (some (aI x)), S) := ev_end i143_20 rfl
theorem i143_21 : insAt 143 21 = some (.iconst 0, 1, (0, 0, 0, 0), 0) := rfl
theorem s143_21 {c : Nat → List AV → SS → Option Out} {l0 l1 l2 l3 l4 : Option AV} {L2 : List (Nat × AV)} {St : List AV} {S : SS} : ev c 143 21 [l0, l1, l2, l3, l4] L2 St S = ev c 143 22 [l0, l1, l2, l3, l4] L2 (aI 0 :: St) S := ev_go i143_21 rfl
theorem i143_22 : insAt 143 22 = some (.ireturn, 1, (0, 0, 0, 0), 0) := rfl
theorem s143_22 {c : Nat → List AV → SS → Option Out} {l0 l1 l2 l3 l4 : Option AV} {x : Int32} {L2 : List (Nat × AV)} {St : List AV} {S : SS} : ev c 143 22 [l0, l1, l2, l3, l4] L2 [aI x] S = some (.inl (some (aI x)), S) := ev_end i143_22 rfl
theorem m143 {d : Nat} {a0 : OId} {a1 : Int32} {a2 : Int32} {a3 : OId} {S : SS} : evm (d + 1) 143 [aR a0, aI a1, aI a2, aR a3] S = ev (evm d) 143 0 [some (aR a0), some (aI a1), some (aI a2), some (aR a3), none] [] [] S := evm_s (n := 5) rfl (Nat.le_of_ble_eq_true rfl) rfl rfl
/-! FrequencyOfficeLaw.movesToChange(LFrequencyOffice;II[J)I -/
theorem i150_0 : insAt 150 0 = some (.aload_n 3, 1, (0, 0, 0, 0), 0) := rfl
theorem s150_0 {c : Nat → List AV → SS → Option Out} {l0 l1 l2 l4 : Option AV} {o : OId} {L2 : List (Nat × AV)} {St : List AV} {S : SS} : ev c 150 0 [l0, l1, l2, some (aR o), l4] L2 St S = ev c 150 1 [l0, l1, l2, some (aR o), l4] L2 (aR o :: St) S := ev_go i150_0 rfl
theorem i150_1 : insAt 150 1 = some (.iconst 0, 1, (0, 0, 0, 0), 0) := rfl
theorem s150_1 {c : Nat → List AV → SS → Option Out} {l0 l1 l2 l3 l4 : Option AV} {L2 : List (Nat × AV)} {St : List AV} {S : SS} : ev c 150 1 [l0, l1, l2, l3, l4] L2 St S = ev c 150 2 [l0, l1, l2, l3, l4] L2 (aI 0 :: St) S := ev_go i150_1 rfl
theorem i150_2 : insAt 150 2 = some (.aload_n 0, 1, (0, 0, 0, 0), 0) := rfl
theorem s150_2 {c : Nat → List AV → SS → Option Out} {l1 l2 l3 l4 : Option AV} {o : OId} {L2 : List (Nat × AV)} {St : List AV} {S : SS} : ev c 150 2 [some (aR o), l1, l2, l3, l4] L2 St S = ev c 150 3 [some (aR o), l1, l2, l3, l4] L2 (aR o :: St) S := ev_go i150_2 rfl
theorem i150_3 : insAt 150 3 = some (.iload_n 1, 1, (0, 0, 0, 0), 0) := rfl
theorem s150_3 {c : Nat → List AV → SS → Option Out} {l0 l2 l3 l4 : Option AV} {x : Int32} {L2 : List (Nat × AV)} {St : List AV} {S : SS} : ev c 150 3 [l0, some (aI x), l2, l3, l4] L2 St S = ev c 150 4 [l0, some (aI x), l2, l3, l4] L2 (aI x :: St) S := ev_go i150_3 rfl
theorem i150_4 : insAt 150 4 = some (.iload_n 2, 1, (0, 0, 0, 0), 0) := rfl
theorem s150_4 {c : Nat → List AV → SS → Option Out} {l0 l1 l3 l4 : Option AV} {x : Int32} {L2 : List (Nat × AV)} {St : List AV} {S : SS} : ev c 150 4 [l0, l1, some (aI x), l3, l4] L2 St S = ev c 150 5 [l0, l1, some (aI x), l3, l4] L2 (aI x :: St) S := ev_go i150_4 rfl
theorem i150_5 : insAt 150 5 = some (.invokevirtual 101, 3, (151, 2, 2, 11), 0) := rfl
theorem s150_5 {c : Nat → List AV → SS → Option Out} {l0 l1 l2 l3 l4 : Option AV} {t0 t1 : AV} {a0 : Int32} {a1 : Int32} {j t : Nat} {S : SS} : ev c 150 5 [l0, l1, l2, l3, l4] [] [aI a1, aI a0, aR (11, j, t), t0, t1] S = ckH [(0, 10, 15, 4, 3), (0, 10, 19, 4, 0), (0, 10, 23, 4, 1), (0, 10, 27, 4, 2)] 5 (c 151 [aR (11, j, t), aI a0, aI a1] S) (fun v S' => ev c 150 8 [l0, l1, l2, l3, l4] [] (v.toList ++ [t0, t1]) S') (fun a b S' => ev c 150 a ([l0, l1, l2, l3, l4].set b none) [] [] S') := ev_callH rfl (fun E a b h9 => hnd_lt (by decide) h9) i150_5 rfl
theorem i150_8 : insAt 150 8 = some (.i2l, 1, (0, 0, 0, 0), 0) := rfl
theorem s150_8 {c : Nat → List AV → SS → Option Out} {l0 l1 l2 l3 l4 : Option AV} {x : Int32} {L2 : List (Nat × AV)} {St : List AV} {S : SS} : ev c 150 8 [l0, l1, l2, l3, l4] L2 (aI x :: St) S = ev c 150 9 [l0, l1, l2, l3, l4] L2 (aL x.toInt64 :: St) S := ev_go i150_8 rfl
theorem i150_9 : insAt 150 9 = some (.lastore, 1, (0, 0, 0, 0), 0) := rfl
theorem s150_9 {c : Nat → List AV → SS → Option Out} {l0 l1 l2 l3 l4 : Option AV} {x : Int64} {i : Int32} {o : OId} {L2 : List (Nat × AV)} {St : List AV} {S : SS} : ev c 150 9 [l0, l1, l2, l3, l4] L2 (aL x :: aI i :: aR o :: St) S = kJ o i (ev c 150 10 [l0, l1, l2, l3, l4] L2 St (S.1, setV S.2.1 o i.toNatClampNeg (aL x), S.2.2)) := ev_lastore i150_9
theorem i150_10 : insAt 150 10 = some (.goto 19, 3, (0, 0, 0, 0), 0) := rfl
theorem s150_10 {c : Nat → List AV → SS → Option Out} {l0 l1 l2 l3 l4 : Option AV} {L2 : List (Nat × AV)} {St : List AV} {S : SS} : ev c 150 10 [l0, l1, l2, l3, l4] L2 St S = ev c 150 29 [l0, l1, l2, l3, l4] L2 St S := ev_go i150_10 rfl
theorem i150_15 : insAt 150 15 = some (.iconst 1, 1, (0, 0, 0, 0), 0) := rfl
theorem s150_15 {c : Nat → List AV → SS → Option Out} {l0 l1 l2 l3 l4 : Option AV} {L2 : List (Nat × AV)} {St : List AV} {S : SS} : ev c 150 15 [l0, l1, l2, l3, l4] L2 St S = ev c 150 16 [l0, l1, l2, l3, l4] L2 (aI 1 :: St) S := ev_go i150_15 rfl
theorem i150_16 : insAt 150 16 = some (.ireturn, 1, (0, 0, 0, 0), 0) := rfl
theorem s150_16 {c : Nat → List AV → SS → Option Out} {l0 l1 l2 l3 l4 : Option AV} {x : Int32} {L2 : List (Nat × AV)} {St : List AV} {S : SS} : ev c 150 16 [l0, l1, l2, l3, l4] L2 [aI x] S = some (.inl (some (aI x)), S) := ev_end i150_16 rfl
theorem i150_19 : insAt 150 19 = some (.iconst 2, 1, (0, 0, 0, 0), 0) := rfl
theorem s150_19 {c : Nat → List AV → SS → Option Out} {l0 l1 l2 l3 l4 : Option AV} {L2 : List (Nat × AV)} {St : List AV} {S : SS} : ev c 150 19 [l0, l1, l2, l3, l4] L2 St S = ev c 150 20 [l0, l1, l2, l3, l4] L2 (aI 2 :: St) S := ev_go i150_19 rfl
theorem i150_20 : insAt 150 20 = some (.ireturn, 1, (0, 0, 0, 0), 0) := rfl
theorem s150_20 {c : Nat → List AV → SS → Option Out} {l0 l1 l2 l3 l4 : Option AV} {x : Int32} {L2 : List (Nat × AV)} {St : List AV} {S : SS} : ev c 150 20 [l0, l1, l2, l3, l4] L2 [aI x] S = some (.inl (some (aI x)), S) := ev_end i150_20 rfl
theorem i150_23 : insAt 150 23 = some (.iconst 3, 1, (0, 0, 0, 0), 0) := rfl
theorem s150_23 {c : Nat → List AV → SS → Option Out} {l0 l1 l2 l3 l4 : Option AV} {L2 : List (Nat × AV)} {St : List AV} {S : SS} : ev c 150 23 [l0, l1, l2, l3, l4] L2 St S = ev c 150 24 [l0, l1, l2, l3, l4] L2 (aI 3 :: St) S := ev_go i150_23 rfl
theorem i150_24 : insAt 150 24 = some (.ireturn, 1, (0, 0, 0, 0), 0) := rfl
theorem s150_24 {c : Nat → List AV → SS → Option Out} {l0 l1 l2 l3 l4 : Option AV} {x : Int32} {L2 : List (Nat × AV)} {St : List AV} {S : SS} : ev c 150 24 [l0, l1, l2, l3, l4] L2 [aI x] S = some (.inl (some (aI x)), S) := ev_end i150_24 rfl
theorem i150_27 : insAt 150 27 = some (.iconst 4, 1, (0, 0, 0, 0), 0) := rfl
theorem s150_27 {c : Nat → List AV → SS → Option Out} {l0 l1 l2 l3 l4 : Option AV} {L2 : List (Nat × AV)} {St : List AV} {S : SS} : ev c 150 27 [l0, l1, l2, l3, l4] L2 St S = ev c 150 28 [l0, l1, l2, l3, l4] L2 (aI 4 :: St) S := ev_go i150_27 rfl
theorem i150_28 : insAt 150 28 = some (.ireturn, 1, (0, 0, 0, 0), 0) := rfl
theorem s150_28 {c : Nat → List AV → SS → Option Out} {l0 l1 l2 l3 l4 : Option AV} {x : Int32} {L2 : List (Nat × AV)} {St : List AV} {S : SS} : ev c 150 28 [l0, l1, l2, l3, l4] L2 [aI x] S = some (.inl (some (aI x)), S) := ev_end i150_28 rfl
theorem i150_29 : insAt 150 29 = some (.iconst 0, 1, (0, 0, 0, 0), 0) := rfl
theorem s150_29 {c : Nat → List AV → SS → Option Out} {l0 l1 l2 l3 l4 : Option AV} {L2 : List (Nat × AV)} {St : List AV} {S : SS} : ev c 150 29 [l0, l1, l2, l3, l4] L2 St S = ev c 150 30 [l0, l1, l2, l3, l4] L2 (aI 0 :: St) S := ev_go i150_29 rfl
theorem i150_30 : insAt 150 30 = some (.ireturn, 1, (0, 0, 0, 0), 0) := rfl
theorem s150_30 {c : Nat → List AV → SS → Option Out} {l0 l1 l2 l3 l4 : Option AV} {x : Int32} {L2 : List (Nat × AV)} {St : List AV} {S : SS} : ev c 150 30 [l0, l1, l2, l3, l4] L2 [aI x] S = some (.inl (some (aI x)), S) := ev_end i150_30 rfl
theorem m150 {d : Nat} {a0 : OId} {a1 : Int32} {a2 : Int32} {a3 : OId} {S : SS} : evm (d + 1) 150 [aR a0, aI a1, aI a2, aR a3] S = ev (evm d) 150 0 [some (aR a0), some (aI a1), some (aI a2), some (aR a3), none] [] [] S := evm_s (n := 5) rfl (Nat.le_of_ble_eq_true rfl) rfl rfl
/-! FrequencyOfficeLaw.movesToChangeByQueue(LFrequencyOffice;II[J)I -/
theorem i155_0 : insAt 155 0 = some (.aload_n 3, 1, (0, 0, 0, 0), 0) := rfl
theorem s155_0 {c : Nat → List AV → SS → Option Out} {l0 l1 l2 l4 : Option AV} {o : OId} {L2 : List (Nat × AV)} {St : List AV} {S : SS} : ev c 155 0 [l0, l1, l2, some (aR o), l4] L2 St S = ev c 155 1 [l0, l1, l2, some (aR o), l4] L2 (aR o :: St) S := ev_go i155_0 rfl
theorem i155_1 : insAt 155 1 = some (.iconst 0, 1, (0, 0, 0, 0), 0) := rfl
theorem s155_1 {c : Nat → List AV → SS → Option Out} {l0 l1 l2 l3 l4 : Option AV} {L2 : List (Nat × AV)} {St : List AV} {S : SS} : ev c 155 1 [l0, l1, l2, l3, l4] L2 St S = ev c 155 2 [l0, l1, l2, l3, l4] L2 (aI 0 :: St) S := ev_go i155_1 rfl
theorem i155_2 : insAt 155 2 = some (.aload_n 0, 1, (0, 0, 0, 0), 0) := rfl
theorem s155_2 {c : Nat → List AV → SS → Option Out} {l1 l2 l3 l4 : Option AV} {o : OId} {L2 : List (Nat × AV)} {St : List AV} {S : SS} : ev c 155 2 [some (aR o), l1, l2, l3, l4] L2 St S = ev c 155 3 [some (aR o), l1, l2, l3, l4] L2 (aR o :: St) S := ev_go i155_2 rfl
theorem i155_3 : insAt 155 3 = some (.iload_n 1, 1, (0, 0, 0, 0), 0) := rfl
theorem s155_3 {c : Nat → List AV → SS → Option Out} {l0 l2 l3 l4 : Option AV} {x : Int32} {L2 : List (Nat × AV)} {St : List AV} {S : SS} : ev c 155 3 [l0, some (aI x), l2, l3, l4] L2 St S = ev c 155 4 [l0, some (aI x), l2, l3, l4] L2 (aI x :: St) S := ev_go i155_3 rfl
theorem i155_4 : insAt 155 4 = some (.iload_n 2, 1, (0, 0, 0, 0), 0) := rfl
theorem s155_4 {c : Nat → List AV → SS → Option Out} {l0 l1 l3 l4 : Option AV} {x : Int32} {L2 : List (Nat × AV)} {St : List AV} {S : SS} : ev c 155 4 [l0, l1, some (aI x), l3, l4] L2 St S = ev c 155 5 [l0, l1, some (aI x), l3, l4] L2 (aI x :: St) S := ev_go i155_4 rfl
theorem i155_5 : insAt 155 5 = some (.invokevirtual 104, 3, (156, 2, 2, 11), 0) := rfl
theorem s155_5 {c : Nat → List AV → SS → Option Out} {l0 l1 l2 l3 l4 : Option AV} {t0 t1 : AV} {a0 : Int32} {a1 : Int32} {j t : Nat} {S : SS} : ev c 155 5 [l0, l1, l2, l3, l4] [] [aI a1, aI a0, aR (11, j, t), t0, t1] S = ckH [(0, 10, 15, 4, 3), (0, 10, 19, 4, 0), (0, 10, 23, 4, 1), (0, 10, 27, 4, 2)] 5 (c 156 [aR (11, j, t), aI a0, aI a1] S) (fun v S' => ev c 155 8 [l0, l1, l2, l3, l4] [] (v.toList ++ [t0, t1]) S') (fun a b S' => ev c 155 a ([l0, l1, l2, l3, l4].set b none) [] [] S') := ev_callH rfl (fun E a b h9 => hnd_lt (by decide) h9) i155_5 rfl
theorem i155_8 : insAt 155 8 = some (.i2l, 1, (0, 0, 0, 0), 0) := rfl
theorem s155_8 {c : Nat → List AV → SS → Option Out} {l0 l1 l2 l3 l4 : Option AV} {x : Int32} {L2 : List (Nat × AV)} {St : List AV} {S : SS} : ev c 155 8 [l0, l1, l2, l3, l4] L2 (aI x :: St) S = ev c 155 9 [l0, l1, l2, l3, l4] L2 (aL x.toInt64 :: St) S := ev_go i155_8 rfl
theorem i155_9 : insAt 155 9 = some (.lastore, 1, (0, 0, 0, 0), 0) := rfl
theorem s155_9 {c : Nat → List AV → SS → Option Out} {l0 l1 l2 l3 l4 : Option AV} {x : Int64} {i : Int32} {o : OId} {L2 : List (Nat × AV)} {St : List AV} {S : SS} : ev c 155 9 [l0, l1, l2, l3, l4] L2 (aL x :: aI i :: aR o :: St) S = kJ o i (ev c 155 10 [l0, l1, l2, l3, l4] L2 St (S.1, setV S.2.1 o i.toNatClampNeg (aL x), S.2.2)) := ev_lastore i155_9
theorem i155_10 : insAt 155 10 = some (.goto 19, 3, (0, 0, 0, 0), 0) := rfl
theorem s155_10 {c : Nat → List AV → SS → Option Out} {l0 l1 l2 l3 l4 : Option AV} {L2 : List (Nat × AV)} {St : List AV} {S : SS} : ev c 155 10 [l0, l1, l2, l3, l4] L2 St S = ev c 155 29 [l0, l1, l2, l3, l4] L2 St S := ev_go i155_10 rfl
theorem i155_15 : insAt 155 15 = some (.iconst 1, 1, (0, 0, 0, 0), 0) := rfl
theorem s155_15 {c : Nat → List AV → SS → Option Out} {l0 l1 l2 l3 l4 : Option AV} {L2 : List (Nat × AV)} {St : List AV} {S : SS} : ev c 155 15 [l0, l1, l2, l3, l4] L2 St S = ev c 155 16 [l0, l1, l2, l3, l4] L2 (aI 1 :: St) S := ev_go i155_15 rfl
theorem i155_16 : insAt 155 16 = some (.ireturn, 1, (0, 0, 0, 0), 0) := rfl
theorem s155_16 {c : Nat → List AV → SS → Option Out} {l0 l1 l2 l3 l4 : Option AV} {x : Int32} {L2 : List (Nat × AV)} {St : List AV} {S : SS} : ev c 155 16 [l0, l1, l2, l3, l4] L2 [aI x] S = some (.inl (some (aI x)), S) := ev_end i155_16 rfl
theorem i155_19 : insAt 155 19 = some (.iconst 2, 1, (0, 0, 0, 0), 0) := rfl
theorem s155_19 {c : Nat → List AV → SS → Option Out} {l0 l1 l2 l3 l4 : Option AV} {L2 : List (Nat × AV)} {St : List AV} {S : SS} : ev c 155 19 [l0, l1, l2, l3, l4] L2 St S = ev c 155 20 [l0, l1, l2, l3, l4] L2 (aI 2 :: St) S := ev_go i155_19 rfl
theorem i155_20 : insAt 155 20 = some (.ireturn, 1, (0, 0, 0, 0), 0) := rfl
theorem s155_20 {c : Nat → List AV → SS → Option Out} {l0 l1 l2 l3 l4 : Option AV} {x : Int32} {L2 : List (Nat × AV)} {St : List AV} {S : SS} : ev c 155 20 [l0, l1, l2, l3, l4] L2 [aI x] S = some (.inl (some (aI x)), S) := ev_end i155_20 rfl
theorem i155_23 : insAt 155 23 = some (.iconst 3, 1, (0, 0, 0, 0), 0) := rfl
theorem s155_23 {c : Nat → List AV → SS → Option Out} {l0 l1 l2 l3 l4 : Option AV} {L2 : List (Nat × AV)} {St : List AV} {S : SS} : ev c 155 23 [l0, l1, l2, l3, l4] L2 St S = ev c 155 24 [l0, l1, l2, l3, l4] L2 (aI 3 :: St) S := ev_go i155_23 rfl
theorem i155_24 : insAt 155 24 = some (.ireturn, 1, (0, 0, 0, 0), 0) := rfl
theorem s155_24 {c : Nat → List AV → SS → Option Out} {l0 l1 l2 l3 l4 : Option AV} {x : Int32} {L2 : List (Nat × AV)} {St : List AV} {S : SS} : ev c 155 24 [l0, l1, l2, l3, l4] L2 [aI x] S = some (.inl (some (aI x)), S) := ev_end i155_24 rfl
theorem i155_27 : insAt 155 27 = some (.iconst 4, 1, (0, 0, 0, 0), 0) := rfl
theorem s155_27 {c : Nat → List AV → SS → Option Out} {l0 l1 l2 l3 l4 : Option AV} {L2 : List (Nat × AV)} {St : List AV} {S : SS} : ev c 155 27 [l0, l1, l2, l3, l4] L2 St S = ev c 155 28 [l0, l1, l2, l3, l4] L2 (aI 4 :: St) S := ev_go i155_27 rfl
theorem i155_28 : insAt 155 28 = some (.ireturn, 1, (0, 0, 0, 0), 0) := rfl
theorem s155_28 {c : Nat → List AV → SS → Option Out} {l0 l1 l2 l3 l4 : Option AV} {x : Int32} {L2 : List (Nat × AV)} {St : List AV} {S : SS} : ev c 155 28 [l0, l1, l2, l3, l4] L2 [aI x] S = some (.inl (some (aI x)), S) := ev_end i155_28 rfl
theorem i155_29 : insAt 155 29 = some (.iconst 0, 1, (0, 0, 0, 0), 0) := rfl
theorem s155_29 {c : Nat → List AV → SS → Option Out} {l0 l1 l2 l3 l4 : Option AV} {L2 : List (Nat × AV)} {St : List AV} {S : SS} : ev c 155 29 [l0, l1, l2, l3, l4] L2 St S = ev c 155 30 [l0, l1, l2, l3, l4] L2 (aI 0 :: St) S := ev_go i155_29 rfl
theorem i155_30 : insAt 155 30 = some (.ireturn, 1, (0, 0, 0, 0), 0) := rfl
theorem s155_30 {c : Nat → List AV → SS → Option Out} {l0 l1 l2 l3 l4 : Option AV} {x : Int32} {L2 : List (Nat × AV)} {St : List AV} {S : SS} : ev c 155 30 [l0, l1, l2, l3, l4] L2 [aI x] S = some (.inl (some (aI x)), S) := ev_end i155_30 rfl
theorem m155 {d : Nat} {a0 : OId} {a1 : Int32} {a2 : Int32} {a3 : OId} {S : SS} : evm (d + 1) 155 [aR a0, aI a1, aI a2, aR a3] S = ev (evm d) 155 0 [some (aR a0), some (aI a1), some (aI a2), some (aR a3), none] [] [] S := evm_s (n := 5) rfl (Nat.le_of_ble_eq_true rfl) rfl rfl
/-! FrequencyOfficeLaw.change(LFrequencyOffice;II[J)I -/
theorem i157_0 : insAt 157 0 = some (.aload_n 3, 1, (0, 0, 0, 0), 0) := rfl
theorem s157_0 {c : Nat → List AV → SS → Option Out} {l0 l1 l2 l4 : Option AV} {o : OId} {L2 : List (Nat × AV)} {St : List AV} {S : SS} : ev c 157 0 [l0, l1, l2, some (aR o), l4] L2 St S = ev c 157 1 [l0, l1, l2, some (aR o), l4] L2 (aR o :: St) S := ev_go i157_0 rfl
theorem i157_1 : insAt 157 1 = some (.iconst 0, 1, (0, 0, 0, 0), 0) := rfl
theorem s157_1 {c : Nat → List AV → SS → Option Out} {l0 l1 l2 l3 l4 : Option AV} {L2 : List (Nat × AV)} {St : List AV} {S : SS} : ev c 157 1 [l0, l1, l2, l3, l4] L2 St S = ev c 157 2 [l0, l1, l2, l3, l4] L2 (aI 0 :: St) S := ev_go i157_1 rfl
theorem i157_2 : insAt 157 2 = some (.aload_n 0, 1, (0, 0, 0, 0), 0) := rfl
theorem s157_2 {c : Nat → List AV → SS → Option Out} {l1 l2 l3 l4 : Option AV} {o : OId} {L2 : List (Nat × AV)} {St : List AV} {S : SS} : ev c 157 2 [some (aR o), l1, l2, l3, l4] L2 St S = ev c 157 3 [some (aR o), l1, l2, l3, l4] L2 (aR o :: St) S := ev_go i157_2 rfl
theorem i157_3 : insAt 157 3 = some (.iload_n 1, 1, (0, 0, 0, 0), 0) := rfl
theorem s157_3 {c : Nat → List AV → SS → Option Out} {l0 l2 l3 l4 : Option AV} {x : Int32} {L2 : List (Nat × AV)} {St : List AV} {S : SS} : ev c 157 3 [l0, some (aI x), l2, l3, l4] L2 St S = ev c 157 4 [l0, some (aI x), l2, l3, l4] L2 (aI x :: St) S := ev_go i157_3 rfl
theorem i157_4 : insAt 157 4 = some (.iload_n 2, 1, (0, 0, 0, 0), 0) := rfl
theorem s157_4 {c : Nat → List AV → SS → Option Out} {l0 l1 l3 l4 : Option AV} {x : Int32} {L2 : List (Nat × AV)} {St : List AV} {S : SS} : ev c 157 4 [l0, l1, some (aI x), l3, l4] L2 St S = ev c 157 5 [l0, l1, some (aI x), l3, l4] L2 (aI x :: St) S := ev_go i157_4 rfl
theorem i157_5 : insAt 157 5 = some (.invokevirtual 107, 3, (158, 2, 2, 11), 0) := rfl
theorem s157_5 {c : Nat → List AV → SS → Option Out} {l0 l1 l2 l3 l4 : Option AV} {t0 t1 : AV} {a0 : Int32} {a1 : Int32} {j t : Nat} {S : SS} : ev c 157 5 [l0, l1, l2, l3, l4] [] [aI a1, aI a0, aR (11, j, t), t0, t1] S = ckH [(0, 10, 15, 4, 3), (0, 10, 19, 4, 0), (0, 10, 23, 4, 1), (0, 10, 27, 4, 2)] 5 (c 158 [aR (11, j, t), aI a0, aI a1] S) (fun v S' => ev c 157 8 [l0, l1, l2, l3, l4] [] (v.toList ++ [t0, t1]) S') (fun a b S' => ev c 157 a ([l0, l1, l2, l3, l4].set b none) [] [] S') := ev_callH rfl (fun E a b h9 => hnd_lt (by decide) h9) i157_5 rfl
theorem i157_8 : insAt 157 8 = some (.i2l, 1, (0, 0, 0, 0), 0) := rfl
theorem s157_8 {c : Nat → List AV → SS → Option Out} {l0 l1 l2 l3 l4 : Option AV} {x : Int32} {L2 : List (Nat × AV)} {St : List AV} {S : SS} : ev c 157 8 [l0, l1, l2, l3, l4] L2 (aI x :: St) S = ev c 157 9 [l0, l1, l2, l3, l4] L2 (aL x.toInt64 :: St) S := ev_go i157_8 rfl
theorem i157_9 : insAt 157 9 = some (.lastore, 1, (0, 0, 0, 0), 0) := rfl
theorem s157_9 {c : Nat → List AV → SS → Option Out} {l0 l1 l2 l3 l4 : Option AV} {x : Int64} {i : Int32} {o : OId} {L2 : List (Nat × AV)} {St : List AV} {S : SS} : ev c 157 9 [l0, l1, l2, l3, l4] L2 (aL x :: aI i :: aR o :: St) S = kJ o i (ev c 157 10 [l0, l1, l2, l3, l4] L2 St (S.1, setV S.2.1 o i.toNatClampNeg (aL x), S.2.2)) := ev_lastore i157_9
theorem i157_10 : insAt 157 10 = some (.goto 19, 3, (0, 0, 0, 0), 0) := rfl
theorem s157_10 {c : Nat → List AV → SS → Option Out} {l0 l1 l2 l3 l4 : Option AV} {L2 : List (Nat × AV)} {St : List AV} {S : SS} : ev c 157 10 [l0, l1, l2, l3, l4] L2 St S = ev c 157 29 [l0, l1, l2, l3, l4] L2 St S := ev_go i157_10 rfl
theorem i157_15 : insAt 157 15 = some (.iconst 1, 1, (0, 0, 0, 0), 0) := rfl
theorem s157_15 {c : Nat → List AV → SS → Option Out} {l0 l1 l2 l3 l4 : Option AV} {L2 : List (Nat × AV)} {St : List AV} {S : SS} : ev c 157 15 [l0, l1, l2, l3, l4] L2 St S = ev c 157 16 [l0, l1, l2, l3, l4] L2 (aI 1 :: St) S := ev_go i157_15 rfl
theorem i157_16 : insAt 157 16 = some (.ireturn, 1, (0, 0, 0, 0), 0) := rfl
theorem s157_16 {c : Nat → List AV → SS → Option Out} {l0 l1 l2 l3 l4 : Option AV} {x : Int32} {L2 : List (Nat × AV)} {St : List AV} {S : SS} : ev c 157 16 [l0, l1, l2, l3, l4] L2 [aI x] S = some (.inl (some (aI x)), S) := ev_end i157_16 rfl
theorem i157_19 : insAt 157 19 = some (.iconst 2, 1, (0, 0, 0, 0), 0) := rfl
theorem s157_19 {c : Nat → List AV → SS → Option Out} {l0 l1 l2 l3 l4 : Option AV} {L2 : List (Nat × AV)} {St : List AV} {S : SS} : ev c 157 19 [l0, l1, l2, l3, l4] L2 St S = ev c 157 20 [l0, l1, l2, l3, l4] L2 (aI 2 :: St) S := ev_go i157_19 rfl
theorem i157_20 : insAt 157 20 = some (.ireturn, 1, (0, 0, 0, 0), 0) := rfl
theorem s157_20 {c : Nat → List AV → SS → Option Out} {l0 l1 l2 l3 l4 : Option AV} {x : Int32} {L2 : List (Nat × AV)} {St : List AV} {S : SS} : ev c 157 20 [l0, l1, l2, l3, l4] L2 [aI x] S = some (.inl (some (aI x)), S) := ev_end i157_20 rfl
theorem i157_23 : insAt 157 23 = some (.iconst 3, 1, (0, 0, 0, 0), 0) := rfl
theorem s157_23 {c : Nat → List AV → SS → Option Out} {l0 l1 l2 l3 l4 : Option AV} {L2 : List (Nat × AV)} {St : List AV} {S : SS} : ev c 157 23 [l0, l1, l2, l3, l4] L2 St S = ev c 157 24 [l0, l1, l2, l3, l4] L2 (aI 3 :: St) S := ev_go i157_23 rfl
theorem i157_24 : insAt 157 24 = some (.ireturn, 1, (0, 0, 0, 0), 0) := rfl
theorem s157_24 {c : Nat → List AV → SS → Option Out} {l0 l1 l2 l3 l4 : Option AV} {x : Int32} {L2 : List (Nat × AV)} {St : List AV} {S : SS} : ev c 157 24 [l0, l1, l2, l3, l4] L2 [aI x] S = some (.inl (some (aI x)), S) := ev_end i157_24 rfl
theorem i157_27 : insAt 157 27 = some (.iconst 4, 1, (0, 0, 0, 0), 0) := rfl
theorem s157_27 {c : Nat → List AV → SS → Option Out} {l0 l1 l2 l3 l4 : Option AV} {L2 : List (Nat × AV)} {St : List AV} {S : SS} : ev c 157 27 [l0, l1, l2, l3, l4] L2 St S = ev c 157 28 [l0, l1, l2, l3, l4] L2 (aI 4 :: St) S := ev_go i157_27 rfl
theorem i157_28 : insAt 157 28 = some (.ireturn, 1, (0, 0, 0, 0), 0) := rfl
theorem s157_28 {c : Nat → List AV → SS → Option Out} {l0 l1 l2 l3 l4 : Option AV} {x : Int32} {L2 : List (Nat × AV)} {St : List AV} {S : SS} : ev c 157 28 [l0, l1, l2, l3, l4] L2 [aI x] S = some (.inl (some (aI x)), S) := ev_end i157_28 rfl
theorem i157_29 : insAt 157 29 = some (.iconst 0, 1, (0, 0, 0, 0), 0) := rfl
theorem s157_29 {c : Nat → List AV → SS → Option Out} {l0 l1 l2 l3 l4 : Option AV} {L2 : List (Nat × AV)} {St : List AV} {S : SS} : ev c 157 29 [l0, l1, l2, l3, l4] L2 St S = ev c 157 30 [l0, l1, l2, l3, l4] L2 (aI 0 :: St) S := ev_go i157_29 rfl
theorem i157_30 : insAt 157 30 = some (.ireturn, 1, (0, 0, 0, 0), 0) := rfl
theorem s157_30 {c : Nat → List AV → SS → Option Out} {l0 l1 l2 l3 l4 : Option AV} {x : Int32} {L2 : List (Nat × AV)} {St : List AV} {S : SS} : ev c 157 30 [l0, l1, l2, l3, l4] L2 [aI x] S = some (.inl (some (aI x)), S) := ev_end i157_30 rfl
theorem m157 {d : Nat} {a0 : OId} {a1 : Int32} {a2 : Int32} {a3 : OId} {S : SS} : evm (d + 1) 157 [aR a0, aI a1, aI a2, aR a3] S = ev (evm d) 157 0 [some (aR a0), some (aI a1), some (aI a2), some (aR a3), none] [] [] S := evm_s (n := 5) rfl (Nat.le_of_ble_eq_true rfl) rfl rfl
/-! FrequencyOfficeLaw.complain(LFrequencyOffice;II[J)I -/
theorem i159_0 : insAt 159 0 = some (.aload_n 3, 1, (0, 0, 0, 0), 0) := rfl
theorem s159_0 {c : Nat → List AV → SS → Option Out} {l0 l1 l2 l4 : Option AV} {o : OId} {L2 : List (Nat × AV)} {St : List AV} {S : SS} : ev c 159 0 [l0, l1, l2, some (aR o), l4] L2 St S = ev c 159 1 [l0, l1, l2, some (aR o), l4] L2 (aR o :: St) S := ev_go i159_0 rfl
theorem i159_1 : insAt 159 1 = some (.iconst 0, 1, (0, 0, 0, 0), 0) := rfl
theorem s159_1 {c : Nat → List AV → SS → Option Out} {l0 l1 l2 l3 l4 : Option AV} {L2 : List (Nat × AV)} {St : List AV} {S : SS} : ev c 159 1 [l0, l1, l2, l3, l4] L2 St S = ev c 159 2 [l0, l1, l2, l3, l4] L2 (aI 0 :: St) S := ev_go i159_1 rfl
theorem i159_2 : insAt 159 2 = some (.aload_n 0, 1, (0, 0, 0, 0), 0) := rfl
theorem s159_2 {c : Nat → List AV → SS → Option Out} {l1 l2 l3 l4 : Option AV} {o : OId} {L2 : List (Nat × AV)} {St : List AV} {S : SS} : ev c 159 2 [some (aR o), l1, l2, l3, l4] L2 St S = ev c 159 3 [some (aR o), l1, l2, l3, l4] L2 (aR o :: St) S := ev_go i159_2 rfl
theorem i159_3 : insAt 159 3 = some (.iload_n 1, 1, (0, 0, 0, 0), 0) := rfl
theorem s159_3 {c : Nat → List AV → SS → Option Out} {l0 l2 l3 l4 : Option AV} {x : Int32} {L2 : List (Nat × AV)} {St : List AV} {S : SS} : ev c 159 3 [l0, some (aI x), l2, l3, l4] L2 St S = ev c 159 4 [l0, some (aI x), l2, l3, l4] L2 (aI x :: St) S := ev_go i159_3 rfl
theorem i159_4 : insAt 159 4 = some (.iload_n 2, 1, (0, 0, 0, 0), 0) := rfl
theorem s159_4 {c : Nat → List AV → SS → Option Out} {l0 l1 l3 l4 : Option AV} {x : Int32} {L2 : List (Nat × AV)} {St : List AV} {S : SS} : ev c 159 4 [l0, l1, some (aI x), l3, l4] L2 St S = ev c 159 5 [l0, l1, some (aI x), l3, l4] L2 (aI x :: St) S := ev_go i159_4 rfl
theorem i159_5 : insAt 159 5 = some (.invokevirtual 110, 3, (160, 2, 2, 11), 0) := rfl
theorem s159_5 {c : Nat → List AV → SS → Option Out} {l0 l1 l2 l3 l4 : Option AV} {t0 t1 : AV} {a0 : Int32} {a1 : Int32} {j t : Nat} {S : SS} : ev c 159 5 [l0, l1, l2, l3, l4] [] [aI a1, aI a0, aR (11, j, t), t0, t1] S = ckH [(0, 10, 15, 4, 3), (0, 10, 19, 4, 0), (0, 10, 23, 4, 1), (0, 10, 27, 4, 2)] 5 (c 160 [aR (11, j, t), aI a0, aI a1] S) (fun v S' => ev c 159 8 [l0, l1, l2, l3, l4] [] (v.toList ++ [t0, t1]) S') (fun a b S' => ev c 159 a ([l0, l1, l2, l3, l4].set b none) [] [] S') := ev_callH rfl (fun E a b h9 => hnd_lt (by decide) h9) i159_5 rfl
theorem i159_8 : insAt 159 8 = some (.i2l, 1, (0, 0, 0, 0), 0) := rfl
theorem s159_8 {c : Nat → List AV → SS → Option Out} {l0 l1 l2 l3 l4 : Option AV} {x : Int32} {L2 : List (Nat × AV)} {St : List AV} {S : SS} : ev c 159 8 [l0, l1, l2, l3, l4] L2 (aI x :: St) S = ev c 159 9 [l0, l1, l2, l3, l4] L2 (aL x.toInt64 :: St) S := ev_go i159_8 rfl
theorem i159_9 : insAt 159 9 = some (.lastore, 1, (0, 0, 0, 0), 0) := rfl
theorem s159_9 {c : Nat → List AV → SS → Option Out} {l0 l1 l2 l3 l4 : Option AV} {x : Int64} {i : Int32} {o : OId} {L2 : List (Nat × AV)} {St : List AV} {S : SS} : ev c 159 9 [l0, l1, l2, l3, l4] L2 (aL x :: aI i :: aR o :: St) S = kJ o i (ev c 159 10 [l0, l1, l2, l3, l4] L2 St (S.1, setV S.2.1 o i.toNatClampNeg (aL x), S.2.2)) := ev_lastore i159_9
theorem i159_10 : insAt 159 10 = some (.goto 19, 3, (0, 0, 0, 0), 0) := rfl
theorem s159_10 {c : Nat → List AV → SS → Option Out} {l0 l1 l2 l3 l4 : Option AV} {L2 : List (Nat × AV)} {St : List AV} {S : SS} : ev c 159 10 [l0, l1, l2, l3, l4] L2 St S = ev c 159 29 [l0, l1, l2, l3, l4] L2 St S := ev_go i159_10 rfl
theorem i159_15 : insAt 159 15 = some (.iconst 1, 1, (0, 0, 0, 0), 0) := rfl
theorem s159_15 {c : Nat → List AV → SS → Option Out} {l0 l1 l2 l3 l4 : Option AV} {L2 : List (Nat × AV)} {St : List AV} {S : SS} : ev c 159 15 [l0, l1, l2, l3, l4] L2 St S = ev c 159 16 [l0, l1, l2, l3, l4] L2 (aI 1 :: St) S := ev_go i159_15 rfl
theorem i159_16 : insAt 159 16 = some (.ireturn, 1, (0, 0, 0, 0), 0) := rfl
theorem s159_16 {c : Nat → List AV → SS → Option Out} {l0 l1 l2 l3 l4 : Option AV} {x : Int32} {L2 : List (Nat × AV)} {St : List AV} {S : SS} : ev c 159 16 [l0, l1, l2, l3, l4] L2 [aI x] S = some (.inl (some (aI x)), S) := ev_end i159_16 rfl
theorem i159_19 : insAt 159 19 = some (.iconst 2, 1, (0, 0, 0, 0), 0) := rfl
theorem s159_19 {c : Nat → List AV → SS → Option Out} {l0 l1 l2 l3 l4 : Option AV} {L2 : List (Nat × AV)} {St : List AV} {S : SS} : ev c 159 19 [l0, l1, l2, l3, l4] L2 St S = ev c 159 20 [l0, l1, l2, l3, l4] L2 (aI 2 :: St) S := ev_go i159_19 rfl
theorem i159_20 : insAt 159 20 = some (.ireturn, 1, (0, 0, 0, 0), 0) := rfl
theorem s159_20 {c : Nat → List AV → SS → Option Out} {l0 l1 l2 l3 l4 : Option AV} {x : Int32} {L2 : List (Nat × AV)} {St : List AV} {S : SS} : ev c 159 20 [l0, l1, l2, l3, l4] L2 [aI x] S = some (.inl (some (aI x)), S) := ev_end i159_20 rfl
theorem i159_23 : insAt 159 23 = some (.iconst 3, 1, (0, 0, 0, 0), 0) := rfl
theorem s159_23 {c : Nat → List AV → SS → Option Out} {l0 l1 l2 l3 l4 : Option AV} {L2 : List (Nat × AV)} {St : List AV} {S : SS} : ev c 159 23 [l0, l1, l2, l3, l4] L2 St S = ev c 159 24 [l0, l1, l2, l3, l4] L2 (aI 3 :: St) S := ev_go i159_23 rfl
theorem i159_24 : insAt 159 24 = some (.ireturn, 1, (0, 0, 0, 0), 0) := rfl
theorem s159_24 {c : Nat → List AV → SS → Option Out} {l0 l1 l2 l3 l4 : Option AV} {x : Int32} {L2 : List (Nat × AV)} {St : List AV} {S : SS} : ev c 159 24 [l0, l1, l2, l3, l4] L2 [aI x] S = some (.inl (some (aI x)), S) := ev_end i159_24 rfl
theorem i159_27 : insAt 159 27 = some (.iconst 4, 1, (0, 0, 0, 0), 0) := rfl
theorem s159_27 {c : Nat → List AV → SS → Option Out} {l0 l1 l2 l3 l4 : Option AV} {L2 : List (Nat × AV)} {St : List AV} {S : SS} : ev c 159 27 [l0, l1, l2, l3, l4] L2 St S = ev c 159 28 [l0, l1, l2, l3, l4] L2 (aI 4 :: St) S := ev_go i159_27 rfl
theorem i159_28 : insAt 159 28 = some (.ireturn, 1, (0, 0, 0, 0), 0) := rfl
theorem s159_28 {c : Nat → List AV → SS → Option Out} {l0 l1 l2 l3 l4 : Option AV} {x : Int32} {L2 : List (Nat × AV)} {St : List AV} {S : SS} : ev c 159 28 [l0, l1, l2, l3, l4] L2 [aI x] S = some (.inl (some (aI x)), S) := ev_end i159_28 rfl
theorem i159_29 : insAt 159 29 = some (.iconst 0, 1, (0, 0, 0, 0), 0) := rfl
theorem s159_29 {c : Nat → List AV → SS → Option Out} {l0 l1 l2 l3 l4 : Option AV} {L2 : List (Nat × AV)} {St : List AV} {S : SS} : ev c 159 29 [l0, l1, l2, l3, l4] L2 St S = ev c 159 30 [l0, l1, l2, l3, l4] L2 (aI 0 :: St) S := ev_go i159_29 rfl
theorem i159_30 : insAt 159 30 = some (.ireturn, 1, (0, 0, 0, 0), 0) := rfl
theorem s159_30 {c : Nat → List AV → SS → Option Out} {l0 l1 l2 l3 l4 : Option AV} {x : Int32} {L2 : List (Nat × AV)} {St : List AV} {S : SS} : ev c 159 30 [l0, l1, l2, l3, l4] L2 [aI x] S = some (.inl (some (aI x)), S) := ev_end i159_30 rfl
theorem m159 {d : Nat} {a0 : OId} {a1 : Int32} {a2 : Int32} {a3 : OId} {S : SS} : evm (d + 1) 159 [aR a0, aI a1, aI a2, aR a3] S = ev (evm d) 159 0 [some (aR a0), some (aI a1), some (aI a2), some (aR a3), none] [] [] S := evm_s (n := 5) rfl (Nat.le_of_ble_eq_true rfl) rfl rfl
/-! FrequencyOfficeLaw.moveCount(LFrequencyOffice;[J)I -/
theorem i164_0 : insAt 164 0 = some (.aload_n 1, 1, (0, 0, 0, 0), 0) := rfl
theorem s164_0 {c : Nat → List AV → SS → Option Out} {l0 l2 : Option AV} {o : OId} {L2 : List (Nat × AV)} {St : List AV} {S : SS} : ev c 164 0 [l0, some (aR o), l2] L2 St S = ev c 164 1 [l0, some (aR o), l2] L2 (aR o :: St) S := ev_go i164_0 rfl
theorem i164_1 : insAt 164 1 = some (.iconst 0, 1, (0, 0, 0, 0), 0) := rfl
theorem s164_1 {c : Nat → List AV → SS → Option Out} {l0 l1 l2 : Option AV} {L2 : List (Nat × AV)} {St : List AV} {S : SS} : ev c 164 1 [l0, l1, l2] L2 St S = ev c 164 2 [l0, l1, l2] L2 (aI 0 :: St) S := ev_go i164_1 rfl
theorem i164_2 : insAt 164 2 = some (.aload_n 0, 1, (0, 0, 0, 0), 0) := rfl
theorem s164_2 {c : Nat → List AV → SS → Option Out} {l1 l2 : Option AV} {o : OId} {L2 : List (Nat × AV)} {St : List AV} {S : SS} : ev c 164 2 [some (aR o), l1, l2] L2 St S = ev c 164 3 [some (aR o), l1, l2] L2 (aR o :: St) S := ev_go i164_2 rfl
theorem i164_3 : insAt 164 3 = some (.invokevirtual 113, 3, (165, 0, 2, 11), 0) := rfl
theorem s164_3 {c : Nat → List AV → SS → Option Out} {l0 l1 l2 : Option AV} {t0 t1 : AV} {j t : Nat} {S : SS} : ev c 164 3 [l0, l1, l2] [] [aR (11, j, t), t0, t1] S = ckH [(0, 8, 12, 2, 3)] 3 (c 165 [aR (11, j, t)] S) (fun v S' => ev c 164 6 [l0, l1, l2] [] (v.toList ++ [t0, t1]) S') (fun a b S' => ev c 164 a ([l0, l1, l2].set b none) [] [] S') := ev_callH rfl (fun E a b h9 => hnd_lt (by decide) h9) i164_3 rfl
theorem i164_6 : insAt 164 6 = some (.i2l, 1, (0, 0, 0, 0), 0) := rfl
theorem s164_6 {c : Nat → List AV → SS → Option Out} {l0 l1 l2 : Option AV} {x : Int32} {L2 : List (Nat × AV)} {St : List AV} {S : SS} : ev c 164 6 [l0, l1, l2] L2 (aI x :: St) S = ev c 164 7 [l0, l1, l2] L2 (aL x.toInt64 :: St) S := ev_go i164_6 rfl
theorem i164_7 : insAt 164 7 = some (.lastore, 1, (0, 0, 0, 0), 0) := rfl
theorem s164_7 {c : Nat → List AV → SS → Option Out} {l0 l1 l2 : Option AV} {x : Int64} {i : Int32} {o : OId} {L2 : List (Nat × AV)} {St : List AV} {S : SS} : ev c 164 7 [l0, l1, l2] L2 (aL x :: aI i :: aR o :: St) S = kJ o i (ev c 164 8 [l0, l1, l2] L2 St (S.1, setV S.2.1 o i.toNatClampNeg (aL x), S.2.2)) := ev_lastore i164_7
theorem i164_8 : insAt 164 8 = some (.goto 6, 3, (0, 0, 0, 0), 0) := rfl
theorem s164_8 {c : Nat → List AV → SS → Option Out} {l0 l1 l2 : Option AV} {L2 : List (Nat × AV)} {St : List AV} {S : SS} : ev c 164 8 [l0, l1, l2] L2 St S = ev c 164 14 [l0, l1, l2] L2 St S := ev_go i164_8 rfl
theorem i164_12 : insAt 164 12 = some (.iconst 1, 1, (0, 0, 0, 0), 0) := rfl
theorem s164_12 {c : Nat → List AV → SS → Option Out} {l0 l1 l2 : Option AV} {L2 : List (Nat × AV)} {St : List AV} {S : SS} : ev c 164 12 [l0, l1, l2] L2 St S = ev c 164 13 [l0, l1, l2] L2 (aI 1 :: St) S := ev_go i164_12 rfl
theorem i164_13 : insAt 164 13 = some (.ireturn, 1, (0, 0, 0, 0), 0) := rfl
theorem s164_13 {c : Nat → List AV → SS → Option Out} {l0 l1 l2 : Option AV} {x : Int32} {L2 : List (Nat × AV)} {St : List AV} {S : SS} : ev c 164 13 [l0, l1, l2] L2 [aI x] S = some (.inl (some (aI x)), S) := ev_end i164_13 rfl
theorem i164_14 : insAt 164 14 = some (.iconst 0, 1, (0, 0, 0, 0), 0) := rfl
theorem s164_14 {c : Nat → List AV → SS → Option Out} {l0 l1 l2 : Option AV} {L2 : List (Nat × AV)} {St : List AV} {S : SS} : ev c 164 14 [l0, l1, l2] L2 St S = ev c 164 15 [l0, l1, l2] L2 (aI 0 :: St) S := ev_go i164_14 rfl
theorem i164_15 : insAt 164 15 = some (.ireturn, 1, (0, 0, 0, 0), 0) := rfl
theorem s164_15 {c : Nat → List AV → SS → Option Out} {l0 l1 l2 : Option AV} {x : Int32} {L2 : List (Nat × AV)} {St : List AV} {S : SS} : ev c 164 15 [l0, l1, l2] L2 [aI x] S = some (.inl (some (aI x)), S) := ev_end i164_15 rfl
theorem m164 {d : Nat} {a0 : OId} {a1 : OId} {S : SS} : evm (d + 1) 164 [aR a0, aR a1] S = ev (evm d) 164 0 [some (aR a0), some (aR a1), none] [] [] S := evm_s (n := 3) rfl (Nat.le_of_ble_eq_true rfl) rfl rfl
/-! FrequencyOfficeLaw.movedStation(LFrequencyOffice;I[J)I -/
theorem i166_0 : insAt 166 0 = some (.aload_n 2, 1, (0, 0, 0, 0), 0) := rfl
theorem s166_0 {c : Nat → List AV → SS → Option Out} {l0 l1 l3 : Option AV} {o : OId} {L2 : List (Nat × AV)} {St : List AV} {S : SS} : ev c 166 0 [l0, l1, some (aR o), l3] L2 St S = ev c 166 1 [l0, l1, some (aR o), l3] L2 (aR o :: St) S := ev_go i166_0 rfl
theorem i166_1 : insAt 166 1 = some (.iconst 0, 1, (0, 0, 0, 0), 0) := rfl
theorem s166_1 {c : Nat → List AV → SS → Option Out} {l0 l1 l2 l3 : Option AV} {L2 : List (Nat × AV)} {St : List AV} {S : SS} : ev c 166 1 [l0, l1, l2, l3] L2 St S = ev c 166 2 [l0, l1, l2, l3] L2 (aI 0 :: St) S := ev_go i166_1 rfl
theorem i166_2 : insAt 166 2 = some (.aload_n 0, 1, (0, 0, 0, 0), 0) := rfl
theorem s166_2 {c : Nat → List AV → SS → Option Out} {l1 l2 l3 : Option AV} {o : OId} {L2 : List (Nat × AV)} {St : List AV} {S : SS} : ev c 166 2 [some (aR o), l1, l2, l3] L2 St S = ev c 166 3 [some (aR o), l1, l2, l3] L2 (aR o :: St) S := ev_go i166_2 rfl
theorem i166_3 : insAt 166 3 = some (.iload_n 1, 1, (0, 0, 0, 0), 0) := rfl
theorem s166_3 {c : Nat → List AV → SS → Option Out} {l0 l2 l3 : Option AV} {x : Int32} {L2 : List (Nat × AV)} {St : List AV} {S : SS} : ev c 166 3 [l0, some (aI x), l2, l3] L2 St S = ev c 166 4 [l0, some (aI x), l2, l3] L2 (aI x :: St) S := ev_go i166_3 rfl
theorem i166_4 : insAt 166 4 = some (.invokevirtual 117, 3, (167, 1, 2, 11), 0) := rfl
theorem s166_4 {c : Nat → List AV → SS → Option Out} {l0 l1 l2 l3 : Option AV} {t0 t1 : AV} {a0 : Int32} {j t : Nat} {S : SS} : ev c 166 4 [l0, l1, l2, l3] [] [aI a0, aR (11, j, t), t0, t1] S = ckH [(0, 9, 13, 3, 3)] 4 (c 167 [aR (11, j, t), aI a0] S) (fun v S' => ev c 166 7 [l0, l1, l2, l3] [] (v.toList ++ [t0, t1]) S') (fun a b S' => ev c 166 a ([l0, l1, l2, l3].set b none) [] [] S') := ev_callH rfl (fun E a b h9 => hnd_lt (by decide) h9) i166_4 rfl
theorem i166_7 : insAt 166 7 = some (.i2l, 1, (0, 0, 0, 0), 0) := rfl
theorem s166_7 {c : Nat → List AV → SS → Option Out} {l0 l1 l2 l3 : Option AV} {x : Int32} {L2 : List (Nat × AV)} {St : List AV} {S : SS} : ev c 166 7 [l0, l1, l2, l3] L2 (aI x :: St) S = ev c 166 8 [l0, l1, l2, l3] L2 (aL x.toInt64 :: St) S := ev_go i166_7 rfl
theorem i166_8 : insAt 166 8 = some (.lastore, 1, (0, 0, 0, 0), 0) := rfl
theorem s166_8 {c : Nat → List AV → SS → Option Out} {l0 l1 l2 l3 : Option AV} {x : Int64} {i : Int32} {o : OId} {L2 : List (Nat × AV)} {St : List AV} {S : SS} : ev c 166 8 [l0, l1, l2, l3] L2 (aL x :: aI i :: aR o :: St) S = kJ o i (ev c 166 9 [l0, l1, l2, l3] L2 St (S.1, setV S.2.1 o i.toNatClampNeg (aL x), S.2.2)) := ev_lastore i166_8
theorem i166_9 : insAt 166 9 = some (.goto 6, 3, (0, 0, 0, 0), 0) := rfl
theorem s166_9 {c : Nat → List AV → SS → Option Out} {l0 l1 l2 l3 : Option AV} {L2 : List (Nat × AV)} {St : List AV} {S : SS} : ev c 166 9 [l0, l1, l2, l3] L2 St S = ev c 166 15 [l0, l1, l2, l3] L2 St S := ev_go i166_9 rfl
theorem i166_13 : insAt 166 13 = some (.iconst 1, 1, (0, 0, 0, 0), 0) := rfl
theorem s166_13 {c : Nat → List AV → SS → Option Out} {l0 l1 l2 l3 : Option AV} {L2 : List (Nat × AV)} {St : List AV} {S : SS} : ev c 166 13 [l0, l1, l2, l3] L2 St S = ev c 166 14 [l0, l1, l2, l3] L2 (aI 1 :: St) S := ev_go i166_13 rfl
theorem i166_14 : insAt 166 14 = some (.ireturn, 1, (0, 0, 0, 0), 0) := rfl
theorem s166_14 {c : Nat → List AV → SS → Option Out} {l0 l1 l2 l3 : Option AV} {x : Int32} {L2 : List (Nat × AV)} {St : List AV} {S : SS} : ev c 166 14 [l0, l1, l2, l3] L2 [aI x] S = some (.inl (some (aI x)), S) := ev_end i166_14 rfl
theorem i166_15 : insAt 166 15 = some (.iconst 0, 1, (0, 0, 0, 0), 0) := rfl
theorem s166_15 {c : Nat → List AV → SS → Option Out} {l0 l1 l2 l3 : Option AV} {L2 : List (Nat × AV)} {St : List AV} {S : SS} : ev c 166 15 [l0, l1, l2, l3] L2 St S = ev c 166 16 [l0, l1, l2, l3] L2 (aI 0 :: St) S := ev_go i166_15 rfl
theorem i166_16 : insAt 166 16 = some (.ireturn, 1, (0, 0, 0, 0), 0) := rfl
theorem s166_16 {c : Nat → List AV → SS → Option Out} {l0 l1 l2 l3 : Option AV} {x : Int32} {L2 : List (Nat × AV)} {St : List AV} {S : SS} : ev c 166 16 [l0, l1, l2, l3] L2 [aI x] S = some (.inl (some (aI x)), S) := ev_end i166_16 rfl
theorem m166 {d : Nat} {a0 : OId} {a1 : Int32} {a2 : OId} {S : SS} : evm (d + 1) 166 [aR a0, aI a1, aR a2] S = ev (evm d) 166 0 [some (aR a0), some (aI a1), some (aR a2), none] [] [] S := evm_s (n := 4) rfl (Nat.le_of_ble_eq_true rfl) rfl rfl
/-! FrequencyOfficeLaw.movedFrom(LFrequencyOffice;I[J)I -/
theorem i169_0 : insAt 169 0 = some (.aload_n 2, 1, (0, 0, 0, 0), 0) := rfl
theorem s169_0 {c : Nat → List AV → SS → Option Out} {l0 l1 l3 : Option AV} {o : OId} {L2 : List (Nat × AV)} {St : List AV} {S : SS} : ev c 169 0 [l0, l1, some (aR o), l3] L2 St S = ev c 169 1 [l0, l1, some (aR o), l3] L2 (aR o :: St) S := ev_go i169_0 rfl
theorem i169_1 : insAt 169 1 = some (.iconst 0, 1, (0, 0, 0, 0), 0) := rfl
theorem s169_1 {c : Nat → List AV → SS → Option Out} {l0 l1 l2 l3 : Option AV} {L2 : List (Nat × AV)} {St : List AV} {S : SS} : ev c 169 1 [l0, l1, l2, l3] L2 St S = ev c 169 2 [l0, l1, l2, l3] L2 (aI 0 :: St) S := ev_go i169_1 rfl
theorem i169_2 : insAt 169 2 = some (.aload_n 0, 1, (0, 0, 0, 0), 0) := rfl
theorem s169_2 {c : Nat → List AV → SS → Option Out} {l1 l2 l3 : Option AV} {o : OId} {L2 : List (Nat × AV)} {St : List AV} {S : SS} : ev c 169 2 [some (aR o), l1, l2, l3] L2 St S = ev c 169 3 [some (aR o), l1, l2, l3] L2 (aR o :: St) S := ev_go i169_2 rfl
theorem i169_3 : insAt 169 3 = some (.iload_n 1, 1, (0, 0, 0, 0), 0) := rfl
theorem s169_3 {c : Nat → List AV → SS → Option Out} {l0 l2 l3 : Option AV} {x : Int32} {L2 : List (Nat × AV)} {St : List AV} {S : SS} : ev c 169 3 [l0, some (aI x), l2, l3] L2 St S = ev c 169 4 [l0, some (aI x), l2, l3] L2 (aI x :: St) S := ev_go i169_3 rfl
theorem i169_4 : insAt 169 4 = some (.invokevirtual 120, 3, (170, 1, 2, 11), 0) := rfl
theorem s169_4 {c : Nat → List AV → SS → Option Out} {l0 l1 l2 l3 : Option AV} {t0 t1 : AV} {a0 : Int32} {j t : Nat} {S : SS} : ev c 169 4 [l0, l1, l2, l3] [] [aI a0, aR (11, j, t), t0, t1] S = ckH [(0, 9, 13, 3, 3)] 4 (c 170 [aR (11, j, t), aI a0] S) (fun v S' => ev c 169 7 [l0, l1, l2, l3] [] (v.toList ++ [t0, t1]) S') (fun a b S' => ev c 169 a ([l0, l1, l2, l3].set b none) [] [] S') := ev_callH rfl (fun E a b h9 => hnd_lt (by decide) h9) i169_4 rfl
theorem i169_7 : insAt 169 7 = some (.i2l, 1, (0, 0, 0, 0), 0) := rfl
theorem s169_7 {c : Nat → List AV → SS → Option Out} {l0 l1 l2 l3 : Option AV} {x : Int32} {L2 : List (Nat × AV)} {St : List AV} {S : SS} : ev c 169 7 [l0, l1, l2, l3] L2 (aI x :: St) S = ev c 169 8 [l0, l1, l2, l3] L2 (aL x.toInt64 :: St) S := ev_go i169_7 rfl
theorem i169_8 : insAt 169 8 = some (.lastore, 1, (0, 0, 0, 0), 0) := rfl
theorem s169_8 {c : Nat → List AV → SS → Option Out} {l0 l1 l2 l3 : Option AV} {x : Int64} {i : Int32} {o : OId} {L2 : List (Nat × AV)} {St : List AV} {S : SS} : ev c 169 8 [l0, l1, l2, l3] L2 (aL x :: aI i :: aR o :: St) S = kJ o i (ev c 169 9 [l0, l1, l2, l3] L2 St (S.1, setV S.2.1 o i.toNatClampNeg (aL x), S.2.2)) := ev_lastore i169_8
theorem i169_9 : insAt 169 9 = some (.goto 6, 3, (0, 0, 0, 0), 0) := rfl
theorem s169_9 {c : Nat → List AV → SS → Option Out} {l0 l1 l2 l3 : Option AV} {L2 : List (Nat × AV)} {St : List AV} {S : SS} : ev c 169 9 [l0, l1, l2, l3] L2 St S = ev c 169 15 [l0, l1, l2, l3] L2 St S := ev_go i169_9 rfl
theorem i169_13 : insAt 169 13 = some (.iconst 1, 1, (0, 0, 0, 0), 0) := rfl
theorem s169_13 {c : Nat → List AV → SS → Option Out} {l0 l1 l2 l3 : Option AV} {L2 : List (Nat × AV)} {St : List AV} {S : SS} : ev c 169 13 [l0, l1, l2, l3] L2 St S = ev c 169 14 [l0, l1, l2, l3] L2 (aI 1 :: St) S := ev_go i169_13 rfl
theorem i169_14 : insAt 169 14 = some (.ireturn, 1, (0, 0, 0, 0), 0) := rfl
theorem s169_14 {c : Nat → List AV → SS → Option Out} {l0 l1 l2 l3 : Option AV} {x : Int32} {L2 : List (Nat × AV)} {St : List AV} {S : SS} : ev c 169 14 [l0, l1, l2, l3] L2 [aI x] S = some (.inl (some (aI x)), S) := ev_end i169_14 rfl
theorem i169_15 : insAt 169 15 = some (.iconst 0, 1, (0, 0, 0, 0), 0) := rfl
theorem s169_15 {c : Nat → List AV → SS → Option Out} {l0 l1 l2 l3 : Option AV} {L2 : List (Nat × AV)} {St : List AV} {S : SS} : ev c 169 15 [l0, l1, l2, l3] L2 St S = ev c 169 16 [l0, l1, l2, l3] L2 (aI 0 :: St) S := ev_go i169_15 rfl
theorem i169_16 : insAt 169 16 = some (.ireturn, 1, (0, 0, 0, 0), 0) := rfl
theorem s169_16 {c : Nat → List AV → SS → Option Out} {l0 l1 l2 l3 : Option AV} {x : Int32} {L2 : List (Nat × AV)} {St : List AV} {S : SS} : ev c 169 16 [l0, l1, l2, l3] L2 [aI x] S = some (.inl (some (aI x)), S) := ev_end i169_16 rfl
theorem m169 {d : Nat} {a0 : OId} {a1 : Int32} {a2 : OId} {S : SS} : evm (d + 1) 169 [aR a0, aI a1, aR a2] S = ev (evm d) 169 0 [some (aR a0), some (aI a1), some (aR a2), none] [] [] S := evm_s (n := 4) rfl (Nat.le_of_ble_eq_true rfl) rfl rfl
/-! FrequencyOfficeLaw.movedTo(LFrequencyOffice;I[J)I -/
theorem i171_0 : insAt 171 0 = some (.aload_n 2, 1, (0, 0, 0, 0), 0) := rfl
theorem s171_0 {c : Nat → List AV → SS → Option Out} {l0 l1 l3 : Option AV} {o : OId} {L2 : List (Nat × AV)} {St : List AV} {S : SS} : ev c 171 0 [l0, l1, some (aR o), l3] L2 St S = ev c 171 1 [l0, l1, some (aR o), l3] L2 (aR o :: St) S := ev_go i171_0 rfl
theorem i171_1 : insAt 171 1 = some (.iconst 0, 1, (0, 0, 0, 0), 0) := rfl
theorem s171_1 {c : Nat → List AV → SS → Option Out} {l0 l1 l2 l3 : Option AV} {L2 : List (Nat × AV)} {St : List AV} {S : SS} : ev c 171 1 [l0, l1, l2, l3] L2 St S = ev c 171 2 [l0, l1, l2, l3] L2 (aI 0 :: St) S := ev_go i171_1 rfl
theorem i171_2 : insAt 171 2 = some (.aload_n 0, 1, (0, 0, 0, 0), 0) := rfl
theorem s171_2 {c : Nat → List AV → SS → Option Out} {l1 l2 l3 : Option AV} {o : OId} {L2 : List (Nat × AV)} {St : List AV} {S : SS} : ev c 171 2 [some (aR o), l1, l2, l3] L2 St S = ev c 171 3 [some (aR o), l1, l2, l3] L2 (aR o :: St) S := ev_go i171_2 rfl
theorem i171_3 : insAt 171 3 = some (.iload_n 1, 1, (0, 0, 0, 0), 0) := rfl
theorem s171_3 {c : Nat → List AV → SS → Option Out} {l0 l2 l3 : Option AV} {x : Int32} {L2 : List (Nat × AV)} {St : List AV} {S : SS} : ev c 171 3 [l0, some (aI x), l2, l3] L2 St S = ev c 171 4 [l0, some (aI x), l2, l3] L2 (aI x :: St) S := ev_go i171_3 rfl
theorem i171_4 : insAt 171 4 = some (.invokevirtual 123, 3, (172, 1, 2, 11), 0) := rfl
theorem s171_4 {c : Nat → List AV → SS → Option Out} {l0 l1 l2 l3 : Option AV} {t0 t1 : AV} {a0 : Int32} {j t : Nat} {S : SS} : ev c 171 4 [l0, l1, l2, l3] [] [aI a0, aR (11, j, t), t0, t1] S = ckH [(0, 9, 13, 3, 3)] 4 (c 172 [aR (11, j, t), aI a0] S) (fun v S' => ev c 171 7 [l0, l1, l2, l3] [] (v.toList ++ [t0, t1]) S') (fun a b S' => ev c 171 a ([l0, l1, l2, l3].set b none) [] [] S') := ev_callH rfl (fun E a b h9 => hnd_lt (by decide) h9) i171_4 rfl
theorem i171_7 : insAt 171 7 = some (.i2l, 1, (0, 0, 0, 0), 0) := rfl
theorem s171_7 {c : Nat → List AV → SS → Option Out} {l0 l1 l2 l3 : Option AV} {x : Int32} {L2 : List (Nat × AV)} {St : List AV} {S : SS} : ev c 171 7 [l0, l1, l2, l3] L2 (aI x :: St) S = ev c 171 8 [l0, l1, l2, l3] L2 (aL x.toInt64 :: St) S := ev_go i171_7 rfl
theorem i171_8 : insAt 171 8 = some (.lastore, 1, (0, 0, 0, 0), 0) := rfl
theorem s171_8 {c : Nat → List AV → SS → Option Out} {l0 l1 l2 l3 : Option AV} {x : Int64} {i : Int32} {o : OId} {L2 : List (Nat × AV)} {St : List AV} {S : SS} : ev c 171 8 [l0, l1, l2, l3] L2 (aL x :: aI i :: aR o :: St) S = kJ o i (ev c 171 9 [l0, l1, l2, l3] L2 St (S.1, setV S.2.1 o i.toNatClampNeg (aL x), S.2.2)) := ev_lastore i171_8
theorem i171_9 : insAt 171 9 = some (.goto 6, 3, (0, 0, 0, 0), 0) := rfl
theorem s171_9 {c : Nat → List AV → SS → Option Out} {l0 l1 l2 l3 : Option AV} {L2 : List (Nat × AV)} {St : List AV} {S : SS} : ev c 171 9 [l0, l1, l2, l3] L2 St S = ev c 171 15 [l0, l1, l2, l3] L2 St S := ev_go i171_9 rfl
theorem i171_13 : insAt 171 13 = some (.iconst 1, 1, (0, 0, 0, 0), 0) := rfl
theorem s171_13 {c : Nat → List AV → SS → Option Out} {l0 l1 l2 l3 : Option AV} {L2 : List (Nat × AV)} {St : List AV} {S : SS} : ev c 171 13 [l0, l1, l2, l3] L2 St S = ev c 171 14 [l0, l1, l2, l3] L2 (aI 1 :: St) S := ev_go i171_13 rfl
theorem i171_14 : insAt 171 14 = some (.ireturn, 1, (0, 0, 0, 0), 0) := rfl
theorem s171_14 {c : Nat → List AV → SS → Option Out} {l0 l1 l2 l3 : Option AV} {x : Int32} {L2 : List (Nat × AV)} {St : List AV} {S : SS} : ev c 171 14 [l0, l1, l2, l3] L2 [aI x] S = some (.inl (some (aI x)), S) := ev_end i171_14 rfl
theorem i171_15 : insAt 171 15 = some (.iconst 0, 1, (0, 0, 0, 0), 0) := rfl
theorem s171_15 {c : Nat → List AV → SS → Option Out} {l0 l1 l2 l3 : Option AV} {L2 : List (Nat × AV)} {St : List AV} {S : SS} : ev c 171 15 [l0, l1, l2, l3] L2 St S = ev c 171 16 [l0, l1, l2, l3] L2 (aI 0 :: St) S := ev_go i171_15 rfl
theorem i171_16 : insAt 171 16 = some (.ireturn, 1, (0, 0, 0, 0), 0) := rfl
theorem s171_16 {c : Nat → List AV → SS → Option Out} {l0 l1 l2 l3 : Option AV} {x : Int32} {L2 : List (Nat × AV)} {St : List AV} {S : SS} : ev c 171 16 [l0, l1, l2, l3] L2 [aI x] S = some (.inl (some (aI x)), S) := ev_end i171_16 rfl
theorem m171 {d : Nat} {a0 : OId} {a1 : Int32} {a2 : OId} {S : SS} : evm (d + 1) 171 [aR a0, aI a1, aR a2] S = ev (evm d) 171 0 [some (aR a0), some (aI a1), some (aR a2), none] [] [] S := evm_s (n := 4) rfl (Nat.le_of_ble_eq_true rfl) rfl rfl
/-! FrequencyOfficeLaw.writeStation(LFrequencyOffice;I[J)I -/
theorem i173_0 : insAt 173 0 = some (.aload_n 2, 1, (0, 0, 0, 0), 0) := rfl
theorem s173_0 {c : Nat → List AV → SS → Option Out} {l0 l1 l3 : Option AV} {o : OId} {L2 : List (Nat × AV)} {St : List AV} {S : SS} : ev c 173 0 [l0, l1, some (aR o), l3] L2 St S = ev c 173 1 [l0, l1, some (aR o), l3] L2 (aR o :: St) S := ev_go i173_0 rfl
theorem i173_1 : insAt 173 1 = some (.iconst 0, 1, (0, 0, 0, 0), 0) := rfl
theorem s173_1 {c : Nat → List AV → SS → Option Out} {l0 l1 l2 l3 : Option AV} {L2 : List (Nat × AV)} {St : List AV} {S : SS} : ev c 173 1 [l0, l1, l2, l3] L2 St S = ev c 173 2 [l0, l1, l2, l3] L2 (aI 0 :: St) S := ev_go i173_1 rfl
theorem i173_2 : insAt 173 2 = some (.aload_n 0, 1, (0, 0, 0, 0), 0) := rfl
theorem s173_2 {c : Nat → List AV → SS → Option Out} {l1 l2 l3 : Option AV} {o : OId} {L2 : List (Nat × AV)} {St : List AV} {S : SS} : ev c 173 2 [some (aR o), l1, l2, l3] L2 St S = ev c 173 3 [some (aR o), l1, l2, l3] L2 (aR o :: St) S := ev_go i173_2 rfl
theorem i173_3 : insAt 173 3 = some (.iload_n 1, 1, (0, 0, 0, 0), 0) := rfl
theorem s173_3 {c : Nat → List AV → SS → Option Out} {l0 l2 l3 : Option AV} {x : Int32} {L2 : List (Nat × AV)} {St : List AV} {S : SS} : ev c 173 3 [l0, some (aI x), l2, l3] L2 St S = ev c 173 4 [l0, some (aI x), l2, l3] L2 (aI x :: St) S := ev_go i173_3 rfl
theorem i173_4 : insAt 173 4 = some (.invokevirtual 126, 3, (174, 1, 2, 11), 0) := rfl
theorem s173_4 {c : Nat → List AV → SS → Option Out} {l0 l1 l2 l3 : Option AV} {t0 t1 : AV} {a0 : Int32} {j t : Nat} {S : SS} : ev c 173 4 [l0, l1, l2, l3] [] [aI a0, aR (11, j, t), t0, t1] S = ckH [(0, 9, 13, 3, 3)] 4 (c 174 [aR (11, j, t), aI a0] S) (fun v S' => ev c 173 7 [l0, l1, l2, l3] [] (v.toList ++ [t0, t1]) S') (fun a b S' => ev c 173 a ([l0, l1, l2, l3].set b none) [] [] S') := ev_callH rfl (fun E a b h9 => hnd_lt (by decide) h9) i173_4 rfl
theorem i173_7 : insAt 173 7 = some (.i2l, 1, (0, 0, 0, 0), 0) := rfl
theorem s173_7 {c : Nat → List AV → SS → Option Out} {l0 l1 l2 l3 : Option AV} {x : Int32} {L2 : List (Nat × AV)} {St : List AV} {S : SS} : ev c 173 7 [l0, l1, l2, l3] L2 (aI x :: St) S = ev c 173 8 [l0, l1, l2, l3] L2 (aL x.toInt64 :: St) S := ev_go i173_7 rfl
theorem i173_8 : insAt 173 8 = some (.lastore, 1, (0, 0, 0, 0), 0) := rfl
theorem s173_8 {c : Nat → List AV → SS → Option Out} {l0 l1 l2 l3 : Option AV} {x : Int64} {i : Int32} {o : OId} {L2 : List (Nat × AV)} {St : List AV} {S : SS} : ev c 173 8 [l0, l1, l2, l3] L2 (aL x :: aI i :: aR o :: St) S = kJ o i (ev c 173 9 [l0, l1, l2, l3] L2 St (S.1, setV S.2.1 o i.toNatClampNeg (aL x), S.2.2)) := ev_lastore i173_8
theorem i173_9 : insAt 173 9 = some (.goto 6, 3, (0, 0, 0, 0), 0) := rfl
theorem s173_9 {c : Nat → List AV → SS → Option Out} {l0 l1 l2 l3 : Option AV} {L2 : List (Nat × AV)} {St : List AV} {S : SS} : ev c 173 9 [l0, l1, l2, l3] L2 St S = ev c 173 15 [l0, l1, l2, l3] L2 St S := ev_go i173_9 rfl
theorem i173_13 : insAt 173 13 = some (.iconst 1, 1, (0, 0, 0, 0), 0) := rfl
theorem s173_13 {c : Nat → List AV → SS → Option Out} {l0 l1 l2 l3 : Option AV} {L2 : List (Nat × AV)} {St : List AV} {S : SS} : ev c 173 13 [l0, l1, l2, l3] L2 St S = ev c 173 14 [l0, l1, l2, l3] L2 (aI 1 :: St) S := ev_go i173_13 rfl
theorem i173_14 : insAt 173 14 = some (.ireturn, 1, (0, 0, 0, 0), 0) := rfl
theorem s173_14 {c : Nat → List AV → SS → Option Out} {l0 l1 l2 l3 : Option AV} {x : Int32} {L2 : List (Nat × AV)} {St : List AV} {S : SS} : ev c 173 14 [l0, l1, l2, l3] L2 [aI x] S = some (.inl (some (aI x)), S) := ev_end i173_14 rfl
theorem i173_15 : insAt 173 15 = some (.iconst 0, 1, (0, 0, 0, 0), 0) := rfl
theorem s173_15 {c : Nat → List AV → SS → Option Out} {l0 l1 l2 l3 : Option AV} {L2 : List (Nat × AV)} {St : List AV} {S : SS} : ev c 173 15 [l0, l1, l2, l3] L2 St S = ev c 173 16 [l0, l1, l2, l3] L2 (aI 0 :: St) S := ev_go i173_15 rfl
theorem i173_16 : insAt 173 16 = some (.ireturn, 1, (0, 0, 0, 0), 0) := rfl
theorem s173_16 {c : Nat → List AV → SS → Option Out} {l0 l1 l2 l3 : Option AV} {x : Int32} {L2 : List (Nat × AV)} {St : List AV} {S : SS} : ev c 173 16 [l0, l1, l2, l3] L2 [aI x] S = some (.inl (some (aI x)), S) := ev_end i173_16 rfl
theorem m173 {d : Nat} {a0 : OId} {a1 : Int32} {a2 : OId} {S : SS} : evm (d + 1) 173 [aR a0, aI a1, aR a2] S = ev (evm d) 173 0 [some (aR a0), some (aI a1), some (aR a2), none] [] [] S := evm_s (n := 4) rfl (Nat.le_of_ble_eq_true rfl) rfl rfl
/-! FrequencyOfficeLaw.lineAt(LFrequencyOffice;I[J)I -/
theorem i207_0 : insAt 207 0 = some (.aload_n 2, 1, (0, 0, 0, 0), 0) := rfl
theorem s207_0 {c : Nat → List AV → SS → Option Out} {l0 l1 l3 : Option AV} {o : OId} {L2 : List (Nat × AV)} {St : List AV} {S : SS} : ev c 207 0 [l0, l1, some (aR o), l3] L2 St S = ev c 207 1 [l0, l1, some (aR o), l3] L2 (aR o :: St) S := ev_go i207_0 rfl
theorem i207_1 : insAt 207 1 = some (.iconst 0, 1, (0, 0, 0, 0), 0) := rfl
theorem s207_1 {c : Nat → List AV → SS → Option Out} {l0 l1 l2 l3 : Option AV} {L2 : List (Nat × AV)} {St : List AV} {S : SS} : ev c 207 1 [l0, l1, l2, l3] L2 St S = ev c 207 2 [l0, l1, l2, l3] L2 (aI 0 :: St) S := ev_go i207_1 rfl
theorem i207_2 : insAt 207 2 = some (.aload_n 0, 1, (0, 0, 0, 0), 0) := rfl
theorem s207_2 {c : Nat → List AV → SS → Option Out} {l1 l2 l3 : Option AV} {o : OId} {L2 : List (Nat × AV)} {St : List AV} {S : SS} : ev c 207 2 [some (aR o), l1, l2, l3] L2 St S = ev c 207 3 [some (aR o), l1, l2, l3] L2 (aR o :: St) S := ev_go i207_2 rfl
theorem i207_3 : insAt 207 3 = some (.iload_n 1, 1, (0, 0, 0, 0), 0) := rfl
theorem s207_3 {c : Nat → List AV → SS → Option Out} {l0 l2 l3 : Option AV} {x : Int32} {L2 : List (Nat × AV)} {St : List AV} {S : SS} : ev c 207 3 [l0, some (aI x), l2, l3] L2 St S = ev c 207 4 [l0, some (aI x), l2, l3] L2 (aI x :: St) S := ev_go i207_3 rfl
theorem i207_4 : insAt 207 4 = some (.invokevirtual 129, 3, (208, 1, 2, 11), 0) := rfl
theorem s207_4 {c : Nat → List AV → SS → Option Out} {l0 l1 l2 l3 : Option AV} {t0 t1 : AV} {a0 : Int32} {j t : Nat} {S : SS} : ev c 207 4 [l0, l1, l2, l3] [] [aI a0, aR (11, j, t), t0, t1] S = ckH [(0, 9, 13, 3, 4)] 4 (c 208 [aR (11, j, t), aI a0] S) (fun v S' => ev c 207 7 [l0, l1, l2, l3] [] (v.toList ++ [t0, t1]) S') (fun a b S' => ev c 207 a ([l0, l1, l2, l3].set b none) [] [] S') := ev_callH rfl (fun E a b h9 => hnd_lt (by decide) h9) i207_4 rfl
theorem i207_7 : insAt 207 7 = some (.i2l, 1, (0, 0, 0, 0), 0) := rfl
theorem s207_7 {c : Nat → List AV → SS → Option Out} {l0 l1 l2 l3 : Option AV} {x : Int32} {L2 : List (Nat × AV)} {St : List AV} {S : SS} : ev c 207 7 [l0, l1, l2, l3] L2 (aI x :: St) S = ev c 207 8 [l0, l1, l2, l3] L2 (aL x.toInt64 :: St) S := ev_go i207_7 rfl
theorem i207_8 : insAt 207 8 = some (.lastore, 1, (0, 0, 0, 0), 0) := rfl
theorem s207_8 {c : Nat → List AV → SS → Option Out} {l0 l1 l2 l3 : Option AV} {x : Int64} {i : Int32} {o : OId} {L2 : List (Nat × AV)} {St : List AV} {S : SS} : ev c 207 8 [l0, l1, l2, l3] L2 (aL x :: aI i :: aR o :: St) S = kJ o i (ev c 207 9 [l0, l1, l2, l3] L2 St (S.1, setV S.2.1 o i.toNatClampNeg (aL x), S.2.2)) := ev_lastore i207_8
theorem i207_9 : insAt 207 9 = some (.goto 6, 3, (0, 0, 0, 0), 0) := rfl
theorem s207_9 {c : Nat → List AV → SS → Option Out} {l0 l1 l2 l3 : Option AV} {L2 : List (Nat × AV)} {St : List AV} {S : SS} : ev c 207 9 [l0, l1, l2, l3] L2 St S = ev c 207 15 [l0, l1, l2, l3] L2 St S := ev_go i207_9 rfl
theorem i207_13 : insAt 207 13 = some (.iconst 1, 1, (0, 0, 0, 0), 0) := rfl
theorem s207_13 {c : Nat → List AV → SS → Option Out} {l0 l1 l2 l3 : Option AV} {L2 : List (Nat × AV)} {St : List AV} {S : SS} : ev c 207 13 [l0, l1, l2, l3] L2 St S = ev c 207 14 [l0, l1, l2, l3] L2 (aI 1 :: St) S := ev_go i207_13 rfl
theorem i207_14 : insAt 207 14 = some (.ireturn, 1, (0, 0, 0, 0), 0) := rfl
theorem s207_14 {c : Nat → List AV → SS → Option Out} {l0 l1 l2 l3 : Option AV} {x : Int32} {L2 : List (Nat × AV)} {St : List AV} {S : SS} : ev c 207 14 [l0, l1, l2, l3] L2 [aI x] S = some (.inl (some (aI x)), S) := ev_end i207_14 rfl
theorem i207_15 : insAt 207 15 = some (.iconst 0, 1, (0, 0, 0, 0), 0) := rfl
theorem s207_15 {c : Nat → List AV → SS → Option Out} {l0 l1 l2 l3 : Option AV} {L2 : List (Nat × AV)} {St : List AV} {S : SS} : ev c 207 15 [l0, l1, l2, l3] L2 St S = ev c 207 16 [l0, l1, l2, l3] L2 (aI 0 :: St) S := ev_go i207_15 rfl
theorem i207_16 : insAt 207 16 = some (.ireturn, 1, (0, 0, 0, 0), 0) := rfl
theorem s207_16 {c : Nat → List AV → SS → Option Out} {l0 l1 l2 l3 : Option AV} {x : Int32} {L2 : List (Nat × AV)} {St : List AV} {S : SS} : ev c 207 16 [l0, l1, l2, l3] L2 [aI x] S = some (.inl (some (aI x)), S) := ev_end i207_16 rfl
theorem m207 {d : Nat} {a0 : OId} {a1 : Int32} {a2 : OId} {S : SS} : evm (d + 1) 207 [aR a0, aI a1, aR a2] S = ev (evm d) 207 0 [some (aR a0), some (aI a1), some (aR a2), none] [] [] S := evm_s (n := 4) rfl (Nat.le_of_ble_eq_true rfl) rfl rfl
/-! FrequencyOfficeLaw.undo(LFrequencyOffice;[J)I -/
theorem i211_0 : insAt 211 0 = some (.aload_n 1, 1, (0, 0, 0, 0), 0) := rfl
theorem s211_0 {c : Nat → List AV → SS → Option Out} {l0 l2 : Option AV} {o : OId} {L2 : List (Nat × AV)} {St : List AV} {S : SS} : ev c 211 0 [l0, some (aR o), l2] L2 St S = ev c 211 1 [l0, some (aR o), l2] L2 (aR o :: St) S := ev_go i211_0 rfl
theorem i211_1 : insAt 211 1 = some (.iconst 0, 1, (0, 0, 0, 0), 0) := rfl
theorem s211_1 {c : Nat → List AV → SS → Option Out} {l0 l1 l2 : Option AV} {L2 : List (Nat × AV)} {St : List AV} {S : SS} : ev c 211 1 [l0, l1, l2] L2 St S = ev c 211 2 [l0, l1, l2] L2 (aI 0 :: St) S := ev_go i211_1 rfl
theorem i211_2 : insAt 211 2 = some (.aload_n 0, 1, (0, 0, 0, 0), 0) := rfl
theorem s211_2 {c : Nat → List AV → SS → Option Out} {l1 l2 : Option AV} {o : OId} {L2 : List (Nat × AV)} {St : List AV} {S : SS} : ev c 211 2 [some (aR o), l1, l2] L2 St S = ev c 211 3 [some (aR o), l1, l2] L2 (aR o :: St) S := ev_go i211_2 rfl
theorem i211_3 : insAt 211 3 = some (.invokevirtual 133, 3, (212, 0, 2, 11), 0) := rfl
theorem s211_3 {c : Nat → List AV → SS → Option Out} {l0 l1 l2 : Option AV} {t0 t1 : AV} {j t : Nat} {S : SS} : ev c 211 3 [l0, l1, l2] [] [aR (11, j, t), t0, t1] S = ckH [(0, 8, 12, 2, 1)] 3 (c 212 [aR (11, j, t)] S) (fun v S' => ev c 211 6 [l0, l1, l2] [] (v.toList ++ [t0, t1]) S') (fun a b S' => ev c 211 a ([l0, l1, l2].set b none) [] [] S') := ev_callH rfl (fun E a b h9 => hnd_lt (by decide) h9) i211_3 rfl
theorem i211_6 : insAt 211 6 = some (.i2l, 1, (0, 0, 0, 0), 0) := rfl
theorem s211_6 {c : Nat → List AV → SS → Option Out} {l0 l1 l2 : Option AV} {x : Int32} {L2 : List (Nat × AV)} {St : List AV} {S : SS} : ev c 211 6 [l0, l1, l2] L2 (aI x :: St) S = ev c 211 7 [l0, l1, l2] L2 (aL x.toInt64 :: St) S := ev_go i211_6 rfl
theorem i211_7 : insAt 211 7 = some (.lastore, 1, (0, 0, 0, 0), 0) := rfl
theorem s211_7 {c : Nat → List AV → SS → Option Out} {l0 l1 l2 : Option AV} {x : Int64} {i : Int32} {o : OId} {L2 : List (Nat × AV)} {St : List AV} {S : SS} : ev c 211 7 [l0, l1, l2] L2 (aL x :: aI i :: aR o :: St) S = kJ o i (ev c 211 8 [l0, l1, l2] L2 St (S.1, setV S.2.1 o i.toNatClampNeg (aL x), S.2.2)) := ev_lastore i211_7
theorem i211_8 : insAt 211 8 = some (.goto 6, 3, (0, 0, 0, 0), 0) := rfl
theorem s211_8 {c : Nat → List AV → SS → Option Out} {l0 l1 l2 : Option AV} {L2 : List (Nat × AV)} {St : List AV} {S : SS} : ev c 211 8 [l0, l1, l2] L2 St S = ev c 211 14 [l0, l1, l2] L2 St S := ev_go i211_8 rfl
theorem i211_12 : insAt 211 12 = some (.iconst 1, 1, (0, 0, 0, 0), 0) := rfl
theorem s211_12 {c : Nat → List AV → SS → Option Out} {l0 l1 l2 : Option AV} {L2 : List (Nat × AV)} {St : List AV} {S : SS} : ev c 211 12 [l0, l1, l2] L2 St S = ev c 211 13 [l0, l1, l2] L2 (aI 1 :: St) S := ev_go i211_12 rfl
theorem i211_13 : insAt 211 13 = some (.ireturn, 1, (0, 0, 0, 0), 0) := rfl
theorem s211_13 {c : Nat → List AV → SS → Option Out} {l0 l1 l2 : Option AV} {x : Int32} {L2 : List (Nat × AV)} {St : List AV} {S : SS} : ev c 211 13 [l0, l1, l2] L2 [aI x] S = some (.inl (some (aI x)), S) := ev_end i211_13 rfl
theorem i211_14 : insAt 211 14 = some (.iconst 0, 1, (0, 0, 0, 0), 0) := rfl
theorem s211_14 {c : Nat → List AV → SS → Option Out} {l0 l1 l2 : Option AV} {L2 : List (Nat × AV)} {St : List AV} {S : SS} : ev c 211 14 [l0, l1, l2] L2 St S = ev c 211 15 [l0, l1, l2] L2 (aI 0 :: St) S := ev_go i211_14 rfl
theorem i211_15 : insAt 211 15 = some (.ireturn, 1, (0, 0, 0, 0), 0) := rfl
theorem s211_15 {c : Nat → List AV → SS → Option Out} {l0 l1 l2 : Option AV} {x : Int32} {L2 : List (Nat × AV)} {St : List AV} {S : SS} : ev c 211 15 [l0, l1, l2] L2 [aI x] S = some (.inl (some (aI x)), S) := ev_end i211_15 rfl
theorem m211 {d : Nat} {a0 : OId} {a1 : OId} {S : SS} : evm (d + 1) 211 [aR a0, aR a1] S = ev (evm d) 211 0 [some (aR a0), some (aR a1), none] [] [] S := evm_s (n := 3) rfl (Nat.le_of_ble_eq_true rfl) rfl rfl
/-! FrequencyOfficeLaw.restore(LFrequencyOffice;[J)I -/
theorem i214_0 : insAt 214 0 = some (.aload_n 1, 1, (0, 0, 0, 0), 0) := rfl
theorem s214_0 {c : Nat → List AV → SS → Option Out} {l0 l2 : Option AV} {o : OId} {L2 : List (Nat × AV)} {St : List AV} {S : SS} : ev c 214 0 [l0, some (aR o), l2] L2 St S = ev c 214 1 [l0, some (aR o), l2] L2 (aR o :: St) S := ev_go i214_0 rfl
theorem i214_1 : insAt 214 1 = some (.iconst 0, 1, (0, 0, 0, 0), 0) := rfl
theorem s214_1 {c : Nat → List AV → SS → Option Out} {l0 l1 l2 : Option AV} {L2 : List (Nat × AV)} {St : List AV} {S : SS} : ev c 214 1 [l0, l1, l2] L2 St S = ev c 214 2 [l0, l1, l2] L2 (aI 0 :: St) S := ev_go i214_1 rfl
theorem i214_2 : insAt 214 2 = some (.aload_n 0, 1, (0, 0, 0, 0), 0) := rfl
theorem s214_2 {c : Nat → List AV → SS → Option Out} {l1 l2 : Option AV} {o : OId} {L2 : List (Nat × AV)} {St : List AV} {S : SS} : ev c 214 2 [some (aR o), l1, l2] L2 St S = ev c 214 3 [some (aR o), l1, l2] L2 (aR o :: St) S := ev_go i214_2 rfl
theorem i214_3 : insAt 214 3 = some (.invokevirtual 136, 3, (215, 0, 2, 11), 0) := rfl
theorem s214_3 {c : Nat → List AV → SS → Option Out} {l0 l1 l2 : Option AV} {t0 t1 : AV} {j t : Nat} {S : SS} : ev c 214 3 [l0, l1, l2] [] [aR (11, j, t), t0, t1] S = ckH [(0, 8, 12, 2, 1)] 3 (c 215 [aR (11, j, t)] S) (fun v S' => ev c 214 6 [l0, l1, l2] [] (v.toList ++ [t0, t1]) S') (fun a b S' => ev c 214 a ([l0, l1, l2].set b none) [] [] S') := ev_callH rfl (fun E a b h9 => hnd_lt (by decide) h9) i214_3 rfl
theorem i214_6 : insAt 214 6 = some (.i2l, 1, (0, 0, 0, 0), 0) := rfl
theorem s214_6 {c : Nat → List AV → SS → Option Out} {l0 l1 l2 : Option AV} {x : Int32} {L2 : List (Nat × AV)} {St : List AV} {S : SS} : ev c 214 6 [l0, l1, l2] L2 (aI x :: St) S = ev c 214 7 [l0, l1, l2] L2 (aL x.toInt64 :: St) S := ev_go i214_6 rfl
theorem i214_7 : insAt 214 7 = some (.lastore, 1, (0, 0, 0, 0), 0) := rfl
theorem s214_7 {c : Nat → List AV → SS → Option Out} {l0 l1 l2 : Option AV} {x : Int64} {i : Int32} {o : OId} {L2 : List (Nat × AV)} {St : List AV} {S : SS} : ev c 214 7 [l0, l1, l2] L2 (aL x :: aI i :: aR o :: St) S = kJ o i (ev c 214 8 [l0, l1, l2] L2 St (S.1, setV S.2.1 o i.toNatClampNeg (aL x), S.2.2)) := ev_lastore i214_7
theorem i214_8 : insAt 214 8 = some (.goto 6, 3, (0, 0, 0, 0), 0) := rfl
theorem s214_8 {c : Nat → List AV → SS → Option Out} {l0 l1 l2 : Option AV} {L2 : List (Nat × AV)} {St : List AV} {S : SS} : ev c 214 8 [l0, l1, l2] L2 St S = ev c 214 14 [l0, l1, l2] L2 St S := ev_go i214_8 rfl
theorem i214_12 : insAt 214 12 = some (.iconst 1, 1, (0, 0, 0, 0), 0) := rfl
theorem s214_12 {c : Nat → List AV → SS → Option Out} {l0 l1 l2 : Option AV} {L2 : List (Nat × AV)} {St : List AV} {S : SS} : ev c 214 12 [l0, l1, l2] L2 St S = ev c 214 13 [l0, l1, l2] L2 (aI 1 :: St) S := ev_go i214_12 rfl
theorem i214_13 : insAt 214 13 = some (.ireturn, 1, (0, 0, 0, 0), 0) := rfl
theorem s214_13 {c : Nat → List AV → SS → Option Out} {l0 l1 l2 : Option AV} {x : Int32} {L2 : List (Nat × AV)} {St : List AV} {S : SS} : ev c 214 13 [l0, l1, l2] L2 [aI x] S = some (.inl (some (aI x)), S) := ev_end i214_13 rfl
theorem i214_14 : insAt 214 14 = some (.iconst 0, 1, (0, 0, 0, 0), 0) := rfl
theorem s214_14 {c : Nat → List AV → SS → Option Out} {l0 l1 l2 : Option AV} {L2 : List (Nat × AV)} {St : List AV} {S : SS} : ev c 214 14 [l0, l1, l2] L2 St S = ev c 214 15 [l0, l1, l2] L2 (aI 0 :: St) S := ev_go i214_14 rfl
theorem i214_15 : insAt 214 15 = some (.ireturn, 1, (0, 0, 0, 0), 0) := rfl
theorem s214_15 {c : Nat → List AV → SS → Option Out} {l0 l1 l2 : Option AV} {x : Int32} {L2 : List (Nat × AV)} {St : List AV} {S : SS} : ev c 214 15 [l0, l1, l2] L2 [aI x] S = some (.inl (some (aI x)), S) := ev_end i214_15 rfl
theorem m214 {d : Nat} {a0 : OId} {a1 : OId} {S : SS} : evm (d + 1) 214 [aR a0, aR a1] S = ev (evm d) 214 0 [some (aR a0), some (aR a1), none] [] [] S := evm_s (n := 3) rfl (Nat.le_of_ble_eq_true rfl) rfl rfl
/-! FrequencyOfficeLaw.law([I)Z -/
theorem i314_0 : insAt 314 0 = some (.new 8, 3, (11, 0, 0, 0), 0) := rfl
theorem i314_3 : insAt 314 3 = some (.dup, 1, (0, 0, 0, 0), 0) := rfl
theorem s314_3 {c : Nat → List AV → SS → Option Out} {l0 l1 l2 l3 l4 l5 l6 l7 : Option AV} {x : OId} {L2 : List (Nat × AV)} {St : List AV} {S : SS} : ev c 314 3 [l0, l1, l2, l3, l4, l5, l6, l7] L2 (aR x :: St) S = ev c 314 4 [l0, l1, l2, l3, l4, l5, l6, l7] L2 (aR x :: aR x :: St) S := ev_go i314_3 rfl
theorem i314_4 : insAt 314 4 = some (.invokespecial 139, 3, (0, 0, 5, 11), 0) := rfl
theorem s314_4 {c : Nat → List AV → SS → Option Out} {l0 l1 l2 l3 l4 l5 l6 l7 : Option AV} {t0 : AV} {j t : Nat} {L2 : List (Nat × AV)} {S : SS} : ev c 314 4 [l0, l1, l2, l3, l4, l5, l6, l7] L2 [aR (11, j, t), t0] S = ck (c 0 [aR (11, j, t)] S) (fun v S' => ev c 314 7 [l0, l1, l2, l3, l4, l5, l6, l7] L2 (v.toList ++ [t0]) S') := ev_call i314_4 rfl
theorem i314_7 : insAt 314 7 = some (.astore_n 1, 1, (0, 0, 0, 0), 0) := rfl
theorem s314_7 {c : Nat → List AV → SS → Option Out} {l0 l1 l2 l3 l4 l5 l6 l7 : Option AV} {o : OId} {L2 : List (Nat × AV)} {St : List AV} {S : SS} : ev c 314 7 [l0, l1, l2, l3, l4, l5, l6, l7] L2 (aR o :: St) S = ev c 314 8 [l0, some (aR o), l2, l3, l4, l5, l6, l7] (kil L2 1) St S := ev_go i314_7 rfl
theorem i314_8 : insAt 314 8 = some (.new 140, 3, (12, 0, 0, 0), 0) := rfl
theorem i314_11 : insAt 314 11 = some (.dup, 1, (0, 0, 0, 0), 0) := rfl
theorem s314_11 {c : Nat → List AV → SS → Option Out} {l0 l1 l2 l3 l4 l5 l6 l7 : Option AV} {x : OId} {L2 : List (Nat × AV)} {St : List AV} {S : SS} : ev c 314 11 [l0, l1, l2, l3, l4, l5, l6, l7] L2 (aR x :: St) S = ev c 314 12 [l0, l1, l2, l3, l4, l5, l6, l7] L2 (aR x :: aR x :: St) S := ev_go i314_11 rfl
theorem i314_12 : insAt 314 12 = some (.invokespecial 142, 3, (217, 0, 5, 12), 0) := rfl
theorem s314_12 {c : Nat → List AV → SS → Option Out} {l0 l1 l2 l3 l4 l5 l6 l7 : Option AV} {t0 : AV} {j t : Nat} {L2 : List (Nat × AV)} {S : SS} : ev c 314 12 [l0, l1, l2, l3, l4, l5, l6, l7] L2 [aR (12, j, t), t0] S = ck (c 217 [aR (12, j, t)] S) (fun v S' => ev c 314 15 [l0, l1, l2, l3, l4, l5, l6, l7] L2 (v.toList ++ [t0]) S') := ev_call i314_12 rfl
theorem i314_15 : insAt 314 15 = some (.astore_n 2, 1, (0, 0, 0, 0), 0) := rfl
theorem s314_15 {c : Nat → List AV → SS → Option Out} {l0 l1 l2 l3 l4 l5 l6 l7 : Option AV} {o : OId} {L2 : List (Nat × AV)} {St : List AV} {S : SS} : ev c 314 15 [l0, l1, l2, l3, l4, l5, l6, l7] L2 (aR o :: St) S = ev c 314 16 [l0, l1, some (aR o), l3, l4, l5, l6, l7] (kil L2 2) St S := ev_go i314_15 rfl
theorem i314_16 : insAt 314 16 = some (.iconst 1, 1, (0, 0, 0, 0), 0) := rfl
theorem s314_16 {c : Nat → List AV → SS → Option Out} {l0 l1 l2 l3 l4 l5 l6 l7 : Option AV} {L2 : List (Nat × AV)} {St : List AV} {S : SS} : ev c 314 16 [l0, l1, l2, l3, l4, l5, l6, l7] L2 St S = ev c 314 17 [l0, l1, l2, l3, l4, l5, l6, l7] L2 (aI 1 :: St) S := ev_go i314_16 rfl
theorem i314_17 : insAt 314 17 = some (.newarray .long, 2, (0, 0, 0, 0), 0) := rfl
theorem i314_19 : insAt 314 19 = some (.astore_n 3, 1, (0, 0, 0, 0), 0) := rfl
theorem s314_19 {c : Nat → List AV → SS → Option Out} {l0 l1 l2 l3 l4 l5 l6 l7 : Option AV} {o : OId} {L2 : List (Nat × AV)} {St : List AV} {S : SS} : ev c 314 19 [l0, l1, l2, l3, l4, l5, l6, l7] L2 (aR o :: St) S = ev c 314 20 [l0, l1, l2, some (aR o), l4, l5, l6, l7] (kil L2 3) St S := ev_go i314_19 rfl
theorem i314_20 : insAt 314 20 = some (.iconst 1, 1, (0, 0, 0, 0), 0) := rfl
theorem s314_20 {c : Nat → List AV → SS → Option Out} {l0 l1 l2 l3 l4 l5 l6 l7 : Option AV} {L2 : List (Nat × AV)} {St : List AV} {S : SS} : ev c 314 20 [l0, l1, l2, l3, l4, l5, l6, l7] L2 St S = ev c 314 21 [l0, l1, l2, l3, l4, l5, l6, l7] L2 (aI 1 :: St) S := ev_go i314_20 rfl
theorem i314_21 : insAt 314 21 = some (.newarray .double, 2, (0, 0, 0, 0), 0) := rfl
theorem i314_23 : insAt 314 23 = some (.astore 4, 2, (0, 0, 0, 0), 0) := rfl
theorem s314_23 {c : Nat → List AV → SS → Option Out} {l0 l1 l2 l3 l4 l5 l6 l7 : Option AV} {o : OId} {L2 : List (Nat × AV)} {St : List AV} {S : SS} : ev c 314 23 [l0, l1, l2, l3, l4, l5, l6, l7] L2 (aR o :: St) S = ev c 314 25 [l0, l1, l2, l3, some (aR o), l5, l6, l7] (kil L2 4) St S := ev_go i314_23 rfl
theorem i314_25 : insAt 314 25 = some (.iconst 0, 1, (0, 0, 0, 0), 0) := rfl
theorem s314_25 {c : Nat → List AV → SS → Option Out} {l0 l1 l2 l3 l4 l5 l6 l7 : Option AV} {L2 : List (Nat × AV)} {St : List AV} {S : SS} : ev c 314 25 [l0, l1, l2, l3, l4, l5, l6, l7] L2 St S = ev c 314 26 [l0, l1, l2, l3, l4, l5, l6, l7] L2 (aI 0 :: St) S := ev_go i314_25 rfl
theorem i314_26 : insAt 314 26 = some (.istore 5, 2, (0, 0, 0, 0), 0) := rfl
theorem s314_26 {c : Nat → List AV → SS → Option Out} {l0 l1 l2 l3 l4 l5 l6 l7 : Option AV} {x : Int32} {L2 : List (Nat × AV)} {St : List AV} {S : SS} : ev c 314 26 [l0, l1, l2, l3, l4, l5, l6, l7] L2 (aI x :: St) S = ev c 314 28 [l0, l1, l2, l3, l4, some (aI x), l6, l7] (kil L2 5) St S := ev_go i314_26 rfl
theorem i314_28 : insAt 314 28 = some (.iload 5, 2, (0, 0, 0, 0), 0) := rfl
theorem s314_28 {c : Nat → List AV → SS → Option Out} {l0 l1 l2 l3 l4 l6 l7 : Option AV} {x : Int32} {L2 : List (Nat × AV)} {St : List AV} {S : SS} : ev c 314 28 [l0, l1, l2, l3, l4, some (aI x), l6, l7] L2 St S = ev c 314 30 [l0, l1, l2, l3, l4, some (aI x), l6, l7] L2 (aI x :: St) S := ev_go i314_28 rfl
theorem i314_30 : insAt 314 30 = some (.aload_n 0, 1, (0, 0, 0, 0), 0) := rfl
theorem s314_30 {c : Nat → List AV → SS → Option Out} {l1 l2 l3 l4 l5 l6 l7 : Option AV} {o : OId} {L2 : List (Nat × AV)} {St : List AV} {S : SS} : ev c 314 30 [some (aR o), l1, l2, l3, l4, l5, l6, l7] L2 St S = ev c 314 31 [some (aR o), l1, l2, l3, l4, l5, l6, l7] L2 (aR o :: St) S := ev_go i314_30 rfl
theorem i314_31 : insAt 314 31 = some (.arraylength, 1, (0, 0, 0, 0), 0) := rfl
theorem s314_31 {c : Nat → List AV → SS → Option Out} {l0 l1 l2 l3 l4 l5 l6 l7 : Option AV} {o : OId} {L2 : List (Nat × AV)} {St : List AV} {S : SS} : ev c 314 31 [l0, l1, l2, l3, l4, l5, l6, l7] L2 (aR o :: St) S = kN o (fun x => ev c 314 32 [l0, l1, l2, l3, l4, l5, l6, l7] L2 (aI x :: St) S) := ev_alen i314_31
theorem i314_32 : insAt 314 32 = some (.iconst 4, 1, (0, 0, 0, 0), 0) := rfl
theorem s314_32 {c : Nat → List AV → SS → Option Out} {l0 l1 l2 l3 l4 l5 l6 l7 : Option AV} {L2 : List (Nat × AV)} {St : List AV} {S : SS} : ev c 314 32 [l0, l1, l2, l3, l4, l5, l6, l7] L2 St S = ev c 314 33 [l0, l1, l2, l3, l4, l5, l6, l7] L2 (aI 4 :: St) S := ev_go i314_32 rfl
theorem i314_33 : insAt 314 33 = some (.isub, 1, (0, 0, 0, 0), 0) := rfl
theorem s314_33 {c : Nat → List AV → SS → Option Out} {l0 l1 l2 l3 l4 l5 l6 l7 : Option AV} {x y : Int32} {L2 : List (Nat × AV)} {St : List AV} {S : SS} : ev c 314 33 [l0, l1, l2, l3, l4, l5, l6, l7] L2 (aI y :: aI x :: St) S = ev c 314 34 [l0, l1, l2, l3, l4, l5, l6, l7] L2 (aI (x - y) :: St) S := ev_go i314_33 rfl
theorem i314_34 : insAt 314 34 = some (.if_icmp .gt 2771, 3, (0, 0, 0, 0), 0) := rfl
theorem s314_34 {c : Nat → List AV → SS → Option Out} {l0 l1 l2 l3 l4 l5 l6 l7 : Option AV} {x y : Int32} {L2 : List (Nat × AV)} {St : List AV} {S : SS} : ev c 314 34 [l0, l1, l2, l3, l4, l5, l6, l7] L2 (aI y :: aI x :: St) S = if y < x then ev c 314 2805 [l0, l1, l2, l3, l4, l5, l6, l7] L2 St S else ev c 314 37 [l0, l1, l2, l3, l4, l5, l6, l7] L2 St S := ev_br i314_34 rfl
theorem i314_37 : insAt 314 37 = some (.aload_n 0, 1, (0, 0, 0, 0), 0) := rfl
theorem s314_37 {c : Nat → List AV → SS → Option Out} {l1 l2 l3 l4 l5 l6 l7 : Option AV} {o : OId} {L2 : List (Nat × AV)} {St : List AV} {S : SS} : ev c 314 37 [some (aR o), l1, l2, l3, l4, l5, l6, l7] L2 St S = ev c 314 38 [some (aR o), l1, l2, l3, l4, l5, l6, l7] L2 (aR o :: St) S := ev_go i314_37 rfl
theorem i314_38 : insAt 314 38 = some (.iload 5, 2, (0, 0, 0, 0), 0) := rfl
theorem s314_38 {c : Nat → List AV → SS → Option Out} {l0 l1 l2 l3 l4 l6 l7 : Option AV} {x : Int32} {L2 : List (Nat × AV)} {St : List AV} {S : SS} : ev c 314 38 [l0, l1, l2, l3, l4, some (aI x), l6, l7] L2 St S = ev c 314 40 [l0, l1, l2, l3, l4, some (aI x), l6, l7] L2 (aI x :: St) S := ev_go i314_38 rfl
theorem i314_40 : insAt 314 40 = some (.iaload, 1, (0, 0, 0, 0), 0) := rfl
theorem s314_40 {c : Nat → List AV → SS → Option Out} {l0 l1 l2 l3 l4 l5 l6 l7 : Option AV} {i : Int32} {o : OId} {L2 : List (Nat × AV)} {St : List AV} {S : SS} : ev c 314 40 [l0, l1, l2, l3, l4, l5, l6, l7] L2 (aI i :: aR o :: St) S = kI o i (ev c 314 41 [l0, l1, l2, l3, l4, l5, l6, l7] L2 (aI (agI S o i.toNatClampNeg) :: St) S) := ev_iaload i314_40
theorem i314_41 : insAt 314 41 = some (.bipush 63, 2, (0, 0, 0, 0), 0) := rfl
theorem s314_41 {c : Nat → List AV → SS → Option Out} {l0 l1 l2 l3 l4 l5 l6 l7 : Option AV} {L2 : List (Nat × AV)} {St : List AV} {S : SS} : ev c 314 41 [l0, l1, l2, l3, l4, l5, l6, l7] L2 St S = ev c 314 43 [l0, l1, l2, l3, l4, l5, l6, l7] L2 (aI 63 :: St) S := ev_go i314_41 rfl
theorem i314_43 : insAt 314 43 = some (.iand, 1, (0, 0, 0, 0), 0) := rfl
theorem s314_43 {c : Nat → List AV → SS → Option Out} {l0 l1 l2 l3 l4 l5 l6 l7 : Option AV} {x y : Int32} {L2 : List (Nat × AV)} {St : List AV} {S : SS} : ev c 314 43 [l0, l1, l2, l3, l4, l5, l6, l7] L2 (aI y :: aI x :: St) S = ev c 314 44 [l0, l1, l2, l3, l4, l5, l6, l7] L2 (aI (x &&& y) :: St) S := ev_go i314_43 rfl
theorem i314_44 : insAt 314 44 = some (.tableswitch 2755 0 50 #[220, 300, 313, 326, 339, 419, 499, 567, 635, 691, 747, 760, 773, 786, 811, 867, 923, 979, 1035, 1091, 1147, 1210, 1223, 1236, 1304, 1372, 1440, 1508, 1576, 1656, 1736, 1802, 1815, 1883, 1951, 2019, 2087, 2155, 2223, 2291, 2335, 2391, 2447, 2503, 2516, 2529, 2542, 2598, 2654, 2698, 2711], 220, (0, 0, 0, 0), 0) := rfl
theorem i314_264 : insAt 314 264 = some (.aload_n 1, 1, (0, 0, 0, 0), 0) := rfl
theorem s314_264 {c : Nat → List AV → SS → Option Out} {l0 l2 l3 l4 l5 l6 l7 : Option AV} {o : OId} {L2 : List (Nat × AV)} {St : List AV} {S : SS} : ev c 314 264 [l0, some (aR o), l2, l3, l4, l5, l6, l7] L2 St S = ev c 314 265 [l0, some (aR o), l2, l3, l4, l5, l6, l7] L2 (aR o :: St) S := ev_go i314_264 rfl
theorem i314_265 : insAt 314 265 = some (.aload_n 0, 1, (0, 0, 0, 0), 0) := rfl
theorem s314_265 {c : Nat → List AV → SS → Option Out} {l1 l2 l3 l4 l5 l6 l7 : Option AV} {o : OId} {L2 : List (Nat × AV)} {St : List AV} {S : SS} : ev c 314 265 [some (aR o), l1, l2, l3, l4, l5, l6, l7] L2 St S = ev c 314 266 [some (aR o), l1, l2, l3, l4, l5, l6, l7] L2 (aR o :: St) S := ev_go i314_265 rfl
theorem i314_266 : insAt 314 266 = some (.iload 5, 2, (0, 0, 0, 0), 0) := rfl
theorem s314_266 {c : Nat → List AV → SS → Option Out} {l0 l1 l2 l3 l4 l6 l7 : Option AV} {x : Int32} {L2 : List (Nat × AV)} {St : List AV} {S : SS} : ev c 314 266 [l0, l1, l2, l3, l4, some (aI x), l6, l7] L2 St S = ev c 314 268 [l0, l1, l2, l3, l4, some (aI x), l6, l7] L2 (aI x :: St) S := ev_go i314_266 rfl
theorem i314_268 : insAt 314 268 = some (.iconst 1, 1, (0, 0, 0, 0), 0) := rfl
theorem s314_268 {c : Nat → List AV → SS → Option Out} {l0 l1 l2 l3 l4 l5 l6 l7 : Option AV} {L2 : List (Nat × AV)} {St : List AV} {S : SS} : ev c 314 268 [l0, l1, l2, l3, l4, l5, l6, l7] L2 St S = ev c 314 269 [l0, l1, l2, l3, l4, l5, l6, l7] L2 (aI 1 :: St) S := ev_go i314_268 rfl
theorem i314_269 : insAt 314 269 = some (.iadd, 1, (0, 0, 0, 0), 0) := rfl
theorem s314_269 {c : Nat → List AV → SS → Option Out} {l0 l1 l2 l3 l4 l5 l6 l7 : Option AV} {x y : Int32} {L2 : List (Nat × AV)} {St : List AV} {S : SS} : ev c 314 269 [l0, l1, l2, l3, l4, l5, l6, l7] L2 (aI y :: aI x :: St) S = ev c 314 270 [l0, l1, l2, l3, l4, l5, l6, l7] L2 (aI (x + y) :: St) S := ev_go i314_269 rfl
theorem i314_270 : insAt 314 270 = some (.iaload, 1, (0, 0, 0, 0), 0) := rfl
theorem s314_270 {c : Nat → List AV → SS → Option Out} {l0 l1 l2 l3 l4 l5 l6 l7 : Option AV} {i : Int32} {o : OId} {L2 : List (Nat × AV)} {St : List AV} {S : SS} : ev c 314 270 [l0, l1, l2, l3, l4, l5, l6, l7] L2 (aI i :: aR o :: St) S = kI o i (ev c 314 271 [l0, l1, l2, l3, l4, l5, l6, l7] L2 (aI (agI S o i.toNatClampNeg) :: St) S) := ev_iaload i314_270
theorem i314_271 : insAt 314 271 = some (.aload_n 0, 1, (0, 0, 0, 0), 0) := rfl
theorem s314_271 {c : Nat → List AV → SS → Option Out} {l1 l2 l3 l4 l5 l6 l7 : Option AV} {o : OId} {L2 : List (Nat × AV)} {St : List AV} {S : SS} : ev c 314 271 [some (aR o), l1, l2, l3, l4, l5, l6, l7] L2 St S = ev c 314 272 [some (aR o), l1, l2, l3, l4, l5, l6, l7] L2 (aR o :: St) S := ev_go i314_271 rfl
theorem i314_272 : insAt 314 272 = some (.iload 5, 2, (0, 0, 0, 0), 0) := rfl
theorem s314_272 {c : Nat → List AV → SS → Option Out} {l0 l1 l2 l3 l4 l6 l7 : Option AV} {x : Int32} {L2 : List (Nat × AV)} {St : List AV} {S : SS} : ev c 314 272 [l0, l1, l2, l3, l4, some (aI x), l6, l7] L2 St S = ev c 314 274 [l0, l1, l2, l3, l4, some (aI x), l6, l7] L2 (aI x :: St) S := ev_go i314_272 rfl
theorem i314_274 : insAt 314 274 = some (.iconst 2, 1, (0, 0, 0, 0), 0) := rfl
theorem s314_274 {c : Nat → List AV → SS → Option Out} {l0 l1 l2 l3 l4 l5 l6 l7 : Option AV} {L2 : List (Nat × AV)} {St : List AV} {S : SS} : ev c 314 274 [l0, l1, l2, l3, l4, l5, l6, l7] L2 St S = ev c 314 275 [l0, l1, l2, l3, l4, l5, l6, l7] L2 (aI 2 :: St) S := ev_go i314_274 rfl
theorem i314_275 : insAt 314 275 = some (.iadd, 1, (0, 0, 0, 0), 0) := rfl
theorem s314_275 {c : Nat → List AV → SS → Option Out} {l0 l1 l2 l3 l4 l5 l6 l7 : Option AV} {x y : Int32} {L2 : List (Nat × AV)} {St : List AV} {S : SS} : ev c 314 275 [l0, l1, l2, l3, l4, l5, l6, l7] L2 (aI y :: aI x :: St) S = ev c 314 276 [l0, l1, l2, l3, l4, l5, l6, l7] L2 (aI (x + y) :: St) S := ev_go i314_275 rfl
theorem i314_276 : insAt 314 276 = some (.iaload, 1, (0, 0, 0, 0), 0) := rfl
theorem s314_276 {c : Nat → List AV → SS → Option Out} {l0 l1 l2 l3 l4 l5 l6 l7 : Option AV} {i : Int32} {o : OId} {L2 : List (Nat × AV)} {St : List AV} {S : SS} : ev c 314 276 [l0, l1, l2, l3, l4, l5, l6, l7] L2 (aI i :: aR o :: St) S = kI o i (ev c 314 277 [l0, l1, l2, l3, l4, l5, l6, l7] L2 (aI (agI S o i.toNatClampNeg) :: St) S) := ev_iaload i314_276
theorem i314_277 : insAt 314 277 = some (.aload_n 0, 1, (0, 0, 0, 0), 0) := rfl
theorem s314_277 {c : Nat → List AV → SS → Option Out} {l1 l2 l3 l4 l5 l6 l7 : Option AV} {o : OId} {L2 : List (Nat × AV)} {St : List AV} {S : SS} : ev c 314 277 [some (aR o), l1, l2, l3, l4, l5, l6, l7] L2 St S = ev c 314 278 [some (aR o), l1, l2, l3, l4, l5, l6, l7] L2 (aR o :: St) S := ev_go i314_277 rfl
theorem i314_278 : insAt 314 278 = some (.iload 5, 2, (0, 0, 0, 0), 0) := rfl
theorem s314_278 {c : Nat → List AV → SS → Option Out} {l0 l1 l2 l3 l4 l6 l7 : Option AV} {x : Int32} {L2 : List (Nat × AV)} {St : List AV} {S : SS} : ev c 314 278 [l0, l1, l2, l3, l4, some (aI x), l6, l7] L2 St S = ev c 314 280 [l0, l1, l2, l3, l4, some (aI x), l6, l7] L2 (aI x :: St) S := ev_go i314_278 rfl
theorem i314_280 : insAt 314 280 = some (.iconst 3, 1, (0, 0, 0, 0), 0) := rfl
theorem s314_280 {c : Nat → List AV → SS → Option Out} {l0 l1 l2 l3 l4 l5 l6 l7 : Option AV} {L2 : List (Nat × AV)} {St : List AV} {S : SS} : ev c 314 280 [l0, l1, l2, l3, l4, l5, l6, l7] L2 St S = ev c 314 281 [l0, l1, l2, l3, l4, l5, l6, l7] L2 (aI 3 :: St) S := ev_go i314_280 rfl
theorem i314_281 : insAt 314 281 = some (.iadd, 1, (0, 0, 0, 0), 0) := rfl
theorem s314_281 {c : Nat → List AV → SS → Option Out} {l0 l1 l2 l3 l4 l5 l6 l7 : Option AV} {x y : Int32} {L2 : List (Nat × AV)} {St : List AV} {S : SS} : ev c 314 281 [l0, l1, l2, l3, l4, l5, l6, l7] L2 (aI y :: aI x :: St) S = ev c 314 282 [l0, l1, l2, l3, l4, l5, l6, l7] L2 (aI (x + y) :: St) S := ev_go i314_281 rfl
theorem i314_282 : insAt 314 282 = some (.iaload, 1, (0, 0, 0, 0), 0) := rfl
theorem s314_282 {c : Nat → List AV → SS → Option Out} {l0 l1 l2 l3 l4 l5 l6 l7 : Option AV} {i : Int32} {o : OId} {L2 : List (Nat × AV)} {St : List AV} {S : SS} : ev c 314 282 [l0, l1, l2, l3, l4, l5, l6, l7] L2 (aI i :: aR o :: St) S = kI o i (ev c 314 283 [l0, l1, l2, l3, l4, l5, l6, l7] L2 (aI (agI S o i.toNatClampNeg) :: St) S) := ev_iaload i314_282
theorem i314_283 : insAt 314 283 = some (.aload_n 3, 1, (0, 0, 0, 0), 0) := rfl
theorem s314_283 {c : Nat → List AV → SS → Option Out} {l0 l1 l2 l4 l5 l6 l7 : Option AV} {o : OId} {L2 : List (Nat × AV)} {St : List AV} {S : SS} : ev c 314 283 [l0, l1, l2, some (aR o), l4, l5, l6, l7] L2 St S = ev c 314 284 [l0, l1, l2, some (aR o), l4, l5, l6, l7] L2 (aR o :: St) S := ev_go i314_283 rfl
theorem i314_284 : insAt 314 284 = some (.invokestatic 143, 3, (59, 5, 0, 0), 0) := rfl
theorem s314_284 {c : Nat → List AV → SS → Option Out} {l0 l1 l2 l3 l4 l5 l6 l7 : Option AV} {a0 : OId} {a1 : Int32} {a2 : Int32} {a3 : Int32} {a4 : OId} {L2 : List (Nat × AV)} {S : SS} : ev c 314 284 [l0, l1, l2, l3, l4, l5, l6, l7] L2 [aR a4, aI a3, aI a2, aI a1, aR a0] S = ck (c 59 [aR a0, aI a1, aI a2, aI a3, aR a4] S) (fun v S' => ev c 314 287 [l0, l1, l2, l3, l4, l5, l6, l7] L2 (v.toList ++ []) S') := ev_call i314_284 rfl
theorem i314_287 : insAt 314 287 = some (.istore 6, 2, (0, 0, 0, 0), 0) := rfl
theorem s314_287 {c : Nat → List AV → SS → Option Out} {l0 l1 l2 l3 l4 l5 l6 l7 : Option AV} {x : Int32} {L2 : List (Nat × AV)} {St : List AV} {S : SS} : ev c 314 287 [l0, l1, l2, l3, l4, l5, l6, l7] L2 (aI x :: St) S = ev c 314 289 [l0, l1, l2, l3, l4, l5, some (aI x), l7] (kil L2 6) St S := ev_go i314_287 rfl
theorem i314_289 : insAt 314 289 = some (.aload_n 2, 1, (0, 0, 0, 0), 0) := rfl
theorem s314_289 {c : Nat → List AV → SS → Option Out} {l0 l1 l3 l4 l5 l6 l7 : Option AV} {o : OId} {L2 : List (Nat × AV)} {St : List AV} {S : SS} : ev c 314 289 [l0, l1, some (aR o), l3, l4, l5, l6, l7] L2 St S = ev c 314 290 [l0, l1, some (aR o), l3, l4, l5, l6, l7] L2 (aR o :: St) S := ev_go i314_289 rfl
theorem i314_290 : insAt 314 290 = some (.aload_n 0, 1, (0, 0, 0, 0), 0) := rfl
theorem s314_290 {c : Nat → List AV → SS → Option Out} {l1 l2 l3 l4 l5 l6 l7 : Option AV} {o : OId} {L2 : List (Nat × AV)} {St : List AV} {S : SS} : ev c 314 290 [some (aR o), l1, l2, l3, l4, l5, l6, l7] L2 St S = ev c 314 291 [some (aR o), l1, l2, l3, l4, l5, l6, l7] L2 (aR o :: St) S := ev_go i314_290 rfl
theorem i314_291 : insAt 314 291 = some (.iload 5, 2, (0, 0, 0, 0), 0) := rfl
theorem s314_291 {c : Nat → List AV → SS → Option Out} {l0 l1 l2 l3 l4 l6 l7 : Option AV} {x : Int32} {L2 : List (Nat × AV)} {St : List AV} {S : SS} : ev c 314 291 [l0, l1, l2, l3, l4, some (aI x), l6, l7] L2 St S = ev c 314 293 [l0, l1, l2, l3, l4, some (aI x), l6, l7] L2 (aI x :: St) S := ev_go i314_291 rfl
theorem i314_293 : insAt 314 293 = some (.iconst 1, 1, (0, 0, 0, 0), 0) := rfl
theorem s314_293 {c : Nat → List AV → SS → Option Out} {l0 l1 l2 l3 l4 l5 l6 l7 : Option AV} {L2 : List (Nat × AV)} {St : List AV} {S : SS} : ev c 314 293 [l0, l1, l2, l3, l4, l5, l6, l7] L2 St S = ev c 314 294 [l0, l1, l2, l3, l4, l5, l6, l7] L2 (aI 1 :: St) S := ev_go i314_293 rfl
theorem i314_294 : insAt 314 294 = some (.iadd, 1, (0, 0, 0, 0), 0) := rfl
theorem s314_294 {c : Nat → List AV → SS → Option Out} {l0 l1 l2 l3 l4 l5 l6 l7 : Option AV} {x y : Int32} {L2 : List (Nat × AV)} {St : List AV} {S : SS} : ev c 314 294 [l0, l1, l2, l3, l4, l5, l6, l7] L2 (aI y :: aI x :: St) S = ev c 314 295 [l0, l1, l2, l3, l4, l5, l6, l7] L2 (aI (x + y) :: St) S := ev_go i314_294 rfl
theorem i314_295 : insAt 314 295 = some (.iaload, 1, (0, 0, 0, 0), 0) := rfl
theorem s314_295 {c : Nat → List AV → SS → Option Out} {l0 l1 l2 l3 l4 l5 l6 l7 : Option AV} {i : Int32} {o : OId} {L2 : List (Nat × AV)} {St : List AV} {S : SS} : ev c 314 295 [l0, l1, l2, l3, l4, l5, l6, l7] L2 (aI i :: aR o :: St) S = kI o i (ev c 314 296 [l0, l1, l2, l3, l4, l5, l6, l7] L2 (aI (agI S o i.toNatClampNeg) :: St) S) := ev_iaload i314_295
theorem i314_296 : insAt 314 296 = some (.aload_n 0, 1, (0, 0, 0, 0), 0) := rfl
theorem s314_296 {c : Nat → List AV → SS → Option Out} {l1 l2 l3 l4 l5 l6 l7 : Option AV} {o : OId} {L2 : List (Nat × AV)} {St : List AV} {S : SS} : ev c 314 296 [some (aR o), l1, l2, l3, l4, l5, l6, l7] L2 St S = ev c 314 297 [some (aR o), l1, l2, l3, l4, l5, l6, l7] L2 (aR o :: St) S := ev_go i314_296 rfl
theorem i314_297 : insAt 314 297 = some (.iload 5, 2, (0, 0, 0, 0), 0) := rfl
theorem s314_297 {c : Nat → List AV → SS → Option Out} {l0 l1 l2 l3 l4 l6 l7 : Option AV} {x : Int32} {L2 : List (Nat × AV)} {St : List AV} {S : SS} : ev c 314 297 [l0, l1, l2, l3, l4, some (aI x), l6, l7] L2 St S = ev c 314 299 [l0, l1, l2, l3, l4, some (aI x), l6, l7] L2 (aI x :: St) S := ev_go i314_297 rfl
theorem i314_299 : insAt 314 299 = some (.iconst 2, 1, (0, 0, 0, 0), 0) := rfl
theorem s314_299 {c : Nat → List AV → SS → Option Out} {l0 l1 l2 l3 l4 l5 l6 l7 : Option AV} {L2 : List (Nat × AV)} {St : List AV} {S : SS} : ev c 314 299 [l0, l1, l2, l3, l4, l5, l6, l7] L2 St S = ev c 314 300 [l0, l1, l2, l3, l4, l5, l6, l7] L2 (aI 2 :: St) S := ev_go i314_299 rfl
theorem i314_300 : insAt 314 300 = some (.iadd, 1, (0, 0, 0, 0), 0) := rfl
theorem s314_300 {c : Nat → List AV → SS → Option Out} {l0 l1 l2 l3 l4 l5 l6 l7 : Option AV} {x y : Int32} {L2 : List (Nat × AV)} {St : List AV} {S : SS} : ev c 314 300 [l0, l1, l2, l3, l4, l5, l6, l7] L2 (aI y :: aI x :: St) S = ev c 314 301 [l0, l1, l2, l3, l4, l5, l6, l7] L2 (aI (x + y) :: St) S := ev_go i314_300 rfl
theorem i314_301 : insAt 314 301 = some (.iaload, 1, (0, 0, 0, 0), 0) := rfl
theorem s314_301 {c : Nat → List AV → SS → Option Out} {l0 l1 l2 l3 l4 l5 l6 l7 : Option AV} {i : Int32} {o : OId} {L2 : List (Nat × AV)} {St : List AV} {S : SS} : ev c 314 301 [l0, l1, l2, l3, l4, l5, l6, l7] L2 (aI i :: aR o :: St) S = kI o i (ev c 314 302 [l0, l1, l2, l3, l4, l5, l6, l7] L2 (aI (agI S o i.toNatClampNeg) :: St) S) := ev_iaload i314_301
theorem i314_302 : insAt 314 302 = some (.aload_n 0, 1, (0, 0, 0, 0), 0) := rfl
theorem s314_302 {c : Nat → List AV → SS → Option Out} {l1 l2 l3 l4 l5 l6 l7 : Option AV} {o : OId} {L2 : List (Nat × AV)} {St : List AV} {S : SS} : ev c 314 302 [some (aR o), l1, l2, l3, l4, l5, l6, l7] L2 St S = ev c 314 303 [some (aR o), l1, l2, l3, l4, l5, l6, l7] L2 (aR o :: St) S := ev_go i314_302 rfl
theorem i314_303 : insAt 314 303 = some (.iload 5, 2, (0, 0, 0, 0), 0) := rfl
theorem s314_303 {c : Nat → List AV → SS → Option Out} {l0 l1 l2 l3 l4 l6 l7 : Option AV} {x : Int32} {L2 : List (Nat × AV)} {St : List AV} {S : SS} : ev c 314 303 [l0, l1, l2, l3, l4, some (aI x), l6, l7] L2 St S = ev c 314 305 [l0, l1, l2, l3, l4, some (aI x), l6, l7] L2 (aI x :: St) S := ev_go i314_303 rfl
theorem i314_305 : insAt 314 305 = some (.iconst 3, 1, (0, 0, 0, 0), 0) := rfl
theorem s314_305 {c : Nat → List AV → SS → Option Out} {l0 l1 l2 l3 l4 l5 l6 l7 : Option AV} {L2 : List (Nat × AV)} {St : List AV} {S : SS} : ev c 314 305 [l0, l1, l2, l3, l4, l5, l6, l7] L2 St S = ev c 314 306 [l0, l1, l2, l3, l4, l5, l6, l7] L2 (aI 3 :: St) S := ev_go i314_305 rfl
theorem i314_306 : insAt 314 306 = some (.iadd, 1, (0, 0, 0, 0), 0) := rfl
theorem s314_306 {c : Nat → List AV → SS → Option Out} {l0 l1 l2 l3 l4 l5 l6 l7 : Option AV} {x y : Int32} {L2 : List (Nat × AV)} {St : List AV} {S : SS} : ev c 314 306 [l0, l1, l2, l3, l4, l5, l6, l7] L2 (aI y :: aI x :: St) S = ev c 314 307 [l0, l1, l2, l3, l4, l5, l6, l7] L2 (aI (x + y) :: St) S := ev_go i314_306 rfl
theorem i314_307 : insAt 314 307 = some (.iaload, 1, (0, 0, 0, 0), 0) := rfl
theorem s314_307 {c : Nat → List AV → SS → Option Out} {l0 l1 l2 l3 l4 l5 l6 l7 : Option AV} {i : Int32} {o : OId} {L2 : List (Nat × AV)} {St : List AV} {S : SS} : ev c 314 307 [l0, l1, l2, l3, l4, l5, l6, l7] L2 (aI i :: aR o :: St) S = kI o i (ev c 314 308 [l0, l1, l2, l3, l4, l5, l6, l7] L2 (aI (agI S o i.toNatClampNeg) :: St) S) := ev_iaload i314_307
theorem i314_308 : insAt 314 308 = some (.invokevirtual 148, 3, (219, 3, 2, 12), 0) := rfl
theorem s314_308 {c : Nat → List AV → SS → Option Out} {l0 l1 l2 l3 l4 l5 l6 l7 : Option AV} {a0 : Int32} {a1 : Int32} {a2 : Int32} {j t : Nat} {L2 : List (Nat × AV)} {S : SS} : ev c 314 308 [l0, l1, l2, l3, l4, l5, l6, l7] L2 [aI a2, aI a1, aI a0, aR (12, j, t)] S = ck (c 219 [aR (12, j, t), aI a0, aI a1, aI a2] S) (fun v S' => ev c 314 311 [l0, l1, l2, l3, l4, l5, l6, l7] L2 (v.toList ++ []) S') := ev_call i314_308 rfl
theorem i314_311 : insAt 314 311 = some (.istore 7, 2, (0, 0, 0, 0), 0) := rfl
theorem s314_311 {c : Nat → List AV → SS → Option Out} {l0 l1 l2 l3 l4 l5 l6 l7 : Option AV} {x : Int32} {L2 : List (Nat × AV)} {St : List AV} {S : SS} : ev c 314 311 [l0, l1, l2, l3, l4, l5, l6, l7] L2 (aI x :: St) S = ev c 314 313 [l0, l1, l2, l3, l4, l5, l6, some (aI x)] (kil L2 7) St S := ev_go i314_311 rfl
theorem i314_313 : insAt 314 313 = some (.aload_n 2, 1, (0, 0, 0, 0), 0) := rfl
theorem s314_313 {c : Nat → List AV → SS → Option Out} {l0 l1 l3 l4 l5 l6 l7 : Option AV} {o : OId} {L2 : List (Nat × AV)} {St : List AV} {S : SS} : ev c 314 313 [l0, l1, some (aR o), l3, l4, l5, l6, l7] L2 St S = ev c 314 314 [l0, l1, some (aR o), l3, l4, l5, l6, l7] L2 (aR o :: St) S := ev_go i314_313 rfl
theorem i314_314 : insAt 314 314 = some (.invokevirtual 149, 3, (218, 0, 2, 12), 0) := rfl
theorem s314_314 {c : Nat → List AV → SS → Option Out} {l0 l1 l2 l3 l4 l5 l6 l7 : Option AV} {j t : Nat} {L2 : List (Nat × AV)} {S : SS} : ev c 314 314 [l0, l1, l2, l3, l4, l5, l6, l7] L2 [aR (12, j, t)] S = ck (c 218 [aR (12, j, t)] S) (fun v S' => ev c 314 317 [l0, l1, l2, l3, l4, l5, l6, l7] L2 (v.toList ++ []) S') := ev_call i314_314 rfl
theorem i314_317 : insAt 314 317 = some (.iload 6, 2, (0, 0, 0, 0), 0) := rfl
theorem s314_317 {c : Nat → List AV → SS → Option Out} {l0 l1 l2 l3 l4 l5 l7 : Option AV} {x : Int32} {L2 : List (Nat × AV)} {St : List AV} {S : SS} : ev c 314 317 [l0, l1, l2, l3, l4, l5, some (aI x), l7] L2 St S = ev c 314 319 [l0, l1, l2, l3, l4, l5, some (aI x), l7] L2 (aI x :: St) S := ev_go i314_317 rfl
theorem i314_319 : insAt 314 319 = some (.if_icmp .eq 5, 3, (0, 0, 0, 0), 0) := rfl
theorem s314_319 {c : Nat → List AV → SS → Option Out} {l0 l1 l2 l3 l4 l5 l6 l7 : Option AV} {x y : Int32} {L2 : List (Nat × AV)} {St : List AV} {S : SS} : ev c 314 319 [l0, l1, l2, l3, l4, l5, l6, l7] L2 (aI y :: aI x :: St) S = if x = y then ev c 314 324 [l0, l1, l2, l3, l4, l5, l6, l7] L2 St S else ev c 314 322 [l0, l1, l2, l3, l4, l5, l6, l7] L2 St S := ev_br i314_319 rfl
theorem i314_322 : insAt 314 322 = some (.iconst 0, 1, (0, 0, 0, 0), 0) := rfl
theorem s314_322 {c : Nat → List AV → SS → Option Out} {l0 l1 l2 l3 l4 l5 l6 l7 : Option AV} {L2 : List (Nat × AV)} {St : List AV} {S : SS} : ev c 314 322 [l0, l1, l2, l3, l4, l5, l6, l7] L2 St S = ev c 314 323 [l0, l1, l2, l3, l4, l5, l6, l7] L2 (aI 0 :: St) S := ev_go i314_322 rfl
theorem i314_323 : insAt 314 323 = some (.ireturn, 1, (0, 0, 0, 0), 0) := rfl
theorem s314_323 {c : Nat → List AV → SS → Option Out} {l0 l1 l2 l3 l4 l5 l6 l7 : Option AV} {x : Int32} {L2 : List (Nat × AV)} {St : List AV} {S : SS} : ev c 314 323 [l0, l1, l2, l3, l4, l5, l6, l7] L2 [aI x] S = if x = 0 ∨ x = 1 then some (.inl (some (aI x)), S) else none := ev_rt i314_323 rfl
theorem i314_324 : insAt 314 324 = some (.iload 6, 2, (0, 0, 0, 0), 0) := rfl
theorem s314_324 {c : Nat → List AV → SS → Option Out} {l0 l1 l2 l3 l4 l5 l7 : Option AV} {x : Int32} {L2 : List (Nat × AV)} {St : List AV} {S : SS} : ev c 314 324 [l0, l1, l2, l3, l4, l5, some (aI x), l7] L2 St S = ev c 314 326 [l0, l1, l2, l3, l4, l5, some (aI x), l7] L2 (aI x :: St) S := ev_go i314_324 rfl
theorem i314_326 : insAt 314 326 = some (.ifCond .ne 15, 3, (0, 0, 0, 0), 0) := rfl
theorem s314_326 {c : Nat → List AV → SS → Option Out} {l0 l1 l2 l3 l4 l5 l6 l7 : Option AV} {x : Int32} {L2 : List (Nat × AV)} {St : List AV} {S : SS} : ev c 314 326 [l0, l1, l2, l3, l4, l5, l6, l7] L2 (aI x :: St) S = if x = 0 then ev c 314 329 [l0, l1, l2, l3, l4, l5, l6, l7] L2 St S else ev c 314 341 [l0, l1, l2, l3, l4, l5, l6, l7] L2 St S := (ev_br i314_326 rfl).trans (ite_not _ _ _)
theorem i314_329 : insAt 314 329 = some (.aload_n 3, 1, (0, 0, 0, 0), 0) := rfl
theorem s314_329 {c : Nat → List AV → SS → Option Out} {l0 l1 l2 l4 l5 l6 l7 : Option AV} {o : OId} {L2 : List (Nat × AV)} {St : List AV} {S : SS} : ev c 314 329 [l0, l1, l2, some (aR o), l4, l5, l6, l7] L2 St S = ev c 314 330 [l0, l1, l2, some (aR o), l4, l5, l6, l7] L2 (aR o :: St) S := ev_go i314_329 rfl
theorem i314_330 : insAt 314 330 = some (.iconst 0, 1, (0, 0, 0, 0), 0) := rfl
theorem s314_330 {c : Nat → List AV → SS → Option Out} {l0 l1 l2 l3 l4 l5 l6 l7 : Option AV} {L2 : List (Nat × AV)} {St : List AV} {S : SS} : ev c 314 330 [l0, l1, l2, l3, l4, l5, l6, l7] L2 St S = ev c 314 331 [l0, l1, l2, l3, l4, l5, l6, l7] L2 (aI 0 :: St) S := ev_go i314_330 rfl
theorem i314_331 : insAt 314 331 = some (.laload, 1, (0, 0, 0, 0), 0) := rfl
theorem s314_331 {c : Nat → List AV → SS → Option Out} {l0 l1 l2 l3 l4 l5 l6 l7 : Option AV} {i : Int32} {o : OId} {L2 : List (Nat × AV)} {St : List AV} {S : SS} : ev c 314 331 [l0, l1, l2, l3, l4, l5, l6, l7] L2 (aI i :: aR o :: St) S = kJ o i (ev c 314 332 [l0, l1, l2, l3, l4, l5, l6, l7] L2 (aL (toL (S.2.1 o i.toNatClampNeg)) :: St) S) := ev_laload i314_331
theorem i314_332 : insAt 314 332 = some (.iload 7, 2, (0, 0, 0, 0), 0) := rfl
theorem s314_332 {c : Nat → List AV → SS → Option Out} {l0 l1 l2 l3 l4 l5 l6 : Option AV} {x : Int32} {L2 : List (Nat × AV)} {St : List AV} {S : SS} : ev c 314 332 [l0, l1, l2, l3, l4, l5, l6, some (aI x)] L2 St S = ev c 314 334 [l0, l1, l2, l3, l4, l5, l6, some (aI x)] L2 (aI x :: St) S := ev_go i314_332 rfl
theorem i314_334 : insAt 314 334 = some (.i2l, 1, (0, 0, 0, 0), 0) := rfl
theorem s314_334 {c : Nat → List AV → SS → Option Out} {l0 l1 l2 l3 l4 l5 l6 l7 : Option AV} {x : Int32} {L2 : List (Nat × AV)} {St : List AV} {S : SS} : ev c 314 334 [l0, l1, l2, l3, l4, l5, l6, l7] L2 (aI x :: St) S = ev c 314 335 [l0, l1, l2, l3, l4, l5, l6, l7] L2 (aL x.toInt64 :: St) S := ev_go i314_334 rfl
theorem i314_335 : insAt 314 335 = some (.lcmp, 1, (0, 0, 0, 0), 0) := rfl
theorem s314_335 {c : Nat → List AV → SS → Option Out} {l0 l1 l2 l3 l4 l5 l6 l7 : Option AV} {x y : Int64} {L2 : List (Nat × AV)} {St : List AV} {S : SS} : ev c 314 335 [l0, l1, l2, l3, l4, l5, l6, l7] L2 (aL y :: aL x :: St) S = ev c 314 336 [l0, l1, l2, l3, l4, l5, l6, l7] L2 (aI (if x < y then -1 else if x = y then 0 else 1) :: St) S := ev_go i314_335 rfl
theorem i314_336 : insAt 314 336 = some (.ifCond .eq 5, 3, (0, 0, 0, 0), 0) := rfl
theorem s314_336 {c : Nat → List AV → SS → Option Out} {l0 l1 l2 l3 l4 l5 l6 l7 : Option AV} {x : Int32} {L2 : List (Nat × AV)} {St : List AV} {S : SS} : ev c 314 336 [l0, l1, l2, l3, l4, l5, l6, l7] L2 (aI x :: St) S = if x = 0 then ev c 314 341 [l0, l1, l2, l3, l4, l5, l6, l7] L2 St S else ev c 314 339 [l0, l1, l2, l3, l4, l5, l6, l7] L2 St S := ev_br i314_336 rfl
theorem i314_339 : insAt 314 339 = some (.iconst 0, 1, (0, 0, 0, 0), 0) := rfl
theorem s314_339 {c : Nat → List AV → SS → Option Out} {l0 l1 l2 l3 l4 l5 l6 l7 : Option AV} {L2 : List (Nat × AV)} {St : List AV} {S : SS} : ev c 314 339 [l0, l1, l2, l3, l4, l5, l6, l7] L2 St S = ev c 314 340 [l0, l1, l2, l3, l4, l5, l6, l7] L2 (aI 0 :: St) S := ev_go i314_339 rfl
theorem i314_340 : insAt 314 340 = some (.ireturn, 1, (0, 0, 0, 0), 0) := rfl
theorem s314_340 {c : Nat → List AV → SS → Option Out} {l0 l1 l2 l3 l4 l5 l6 l7 : Option AV} {x : Int32} {L2 : List (Nat × AV)} {St : List AV} {S : SS} : ev c 314 340 [l0, l1, l2, l3, l4, l5, l6, l7] L2 [aI x] S = if x = 0 ∨ x = 1 then some (.inl (some (aI x)), S) else none := ev_rt i314_340 rfl
theorem i314_341 : insAt 314 341 = some (.goto 2458, 3, (0, 0, 0, 0), 0) := rfl
theorem s314_341 {c : Nat → List AV → SS → Option Out} {l0 l1 l2 l3 l4 l5 l6 l7 : Option AV} {L2 : List (Nat × AV)} {St : List AV} {S : SS} : ev c 314 341 [l0, l1, l2, l3, l4, l5, l6, l7] L2 St S = ev c 314 2799 [l0, l1, l2, l3, l4, l5, l6, l7] L2 St S := ev_go i314_341 rfl
theorem i314_344 : insAt 314 344 = some (.aload_n 1, 1, (0, 0, 0, 0), 0) := rfl
theorem s314_344 {c : Nat → List AV → SS → Option Out} {l0 l2 l3 l4 l5 l6 l7 : Option AV} {o : OId} {L2 : List (Nat × AV)} {St : List AV} {S : SS} : ev c 314 344 [l0, some (aR o), l2, l3, l4, l5, l6, l7] L2 St S = ev c 314 345 [l0, some (aR o), l2, l3, l4, l5, l6, l7] L2 (aR o :: St) S := ev_go i314_344 rfl
theorem i314_345 : insAt 314 345 = some (.invokevirtual 152, 3, (10, 0, 2, 11), 0) := rfl
theorem s314_345 {c : Nat → List AV → SS → Option Out} {l0 l1 l2 l3 l4 l5 l6 l7 : Option AV} {j t : Nat} {L2 : List (Nat × AV)} {S : SS} : ev c 314 345 [l0, l1, l2, l3, l4, l5, l6, l7] L2 [aR (11, j, t)] S = ck (c 10 [aR (11, j, t)] S) (fun v S' => ev c 314 348 [l0, l1, l2, l3, l4, l5, l6, l7] L2 (v.toList ++ []) S') := ev_call i314_345 rfl
theorem i314_348 : insAt 314 348 = some (.aload_n 2, 1, (0, 0, 0, 0), 0) := rfl
theorem s314_348 {c : Nat → List AV → SS → Option Out} {l0 l1 l3 l4 l5 l6 l7 : Option AV} {o : OId} {L2 : List (Nat × AV)} {St : List AV} {S : SS} : ev c 314 348 [l0, l1, some (aR o), l3, l4, l5, l6, l7] L2 St S = ev c 314 349 [l0, l1, some (aR o), l3, l4, l5, l6, l7] L2 (aR o :: St) S := ev_go i314_348 rfl
theorem i314_349 : insAt 314 349 = some (.invokevirtual 155, 3, (222, 0, 2, 12), 0) := rfl
theorem s314_349 {c : Nat → List AV → SS → Option Out} {l0 l1 l2 l3 l4 l5 l6 l7 : Option AV} {t0 : AV} {j t : Nat} {L2 : List (Nat × AV)} {S : SS} : ev c 314 349 [l0, l1, l2, l3, l4, l5, l6, l7] L2 [aR (12, j, t), t0] S = ck (c 222 [aR (12, j, t)] S) (fun v S' => ev c 314 352 [l0, l1, l2, l3, l4, l5, l6, l7] L2 (v.toList ++ [t0]) S') := ev_call i314_349 rfl
theorem i314_352 : insAt 314 352 = some (.if_icmp .eq 2447, 3, (0, 0, 0, 0), 0) := rfl
theorem s314_352 {c : Nat → List AV → SS → Option Out} {l0 l1 l2 l3 l4 l5 l6 l7 : Option AV} {x y : Int32} {L2 : List (Nat × AV)} {St : List AV} {S : SS} : ev c 314 352 [l0, l1, l2, l3, l4, l5, l6, l7] L2 (aI y :: aI x :: St) S = if x = y then ev c 314 2799 [l0, l1, l2, l3, l4, l5, l6, l7] L2 St S else ev c 314 355 [l0, l1, l2, l3, l4, l5, l6, l7] L2 St S := ev_br i314_352 rfl
theorem i314_355 : insAt 314 355 = some (.iconst 0, 1, (0, 0, 0, 0), 0) := rfl
theorem s314_355 {c : Nat → List AV → SS → Option Out} {l0 l1 l2 l3 l4 l5 l6 l7 : Option AV} {L2 : List (Nat × AV)} {St : List AV} {S : SS} : ev c 314 355 [l0, l1, l2, l3, l4, l5, l6, l7] L2 St S = ev c 314 356 [l0, l1, l2, l3, l4, l5, l6, l7] L2 (aI 0 :: St) S := ev_go i314_355 rfl
theorem i314_356 : insAt 314 356 = some (.ireturn, 1, (0, 0, 0, 0), 0) := rfl
theorem s314_356 {c : Nat → List AV → SS → Option Out} {l0 l1 l2 l3 l4 l5 l6 l7 : Option AV} {x : Int32} {L2 : List (Nat × AV)} {St : List AV} {S : SS} : ev c 314 356 [l0, l1, l2, l3, l4, l5, l6, l7] L2 [aI x] S = if x = 0 ∨ x = 1 then some (.inl (some (aI x)), S) else none := ev_rt i314_356 rfl
theorem i314_357 : insAt 314 357 = some (.aload_n 1, 1, (0, 0, 0, 0), 0) := rfl
theorem s314_357 {c : Nat → List AV → SS → Option Out} {l0 l2 l3 l4 l5 l6 l7 : Option AV} {o : OId} {L2 : List (Nat × AV)} {St : List AV} {S : SS} : ev c 314 357 [l0, some (aR o), l2, l3, l4, l5, l6, l7] L2 St S = ev c 314 358 [l0, some (aR o), l2, l3, l4, l5, l6, l7] L2 (aR o :: St) S := ev_go i314_357 rfl
theorem i314_358 : insAt 314 358 = some (.invokevirtual 156, 3, (11, 0, 2, 11), 0) := rfl
theorem s314_358 {c : Nat → List AV → SS → Option Out} {l0 l1 l2 l3 l4 l5 l6 l7 : Option AV} {j t : Nat} {L2 : List (Nat × AV)} {S : SS} : ev c 314 358 [l0, l1, l2, l3, l4, l5, l6, l7] L2 [aR (11, j, t)] S = ck (c 11 [aR (11, j, t)] S) (fun v S' => ev c 314 361 [l0, l1, l2, l3, l4, l5, l6, l7] L2 (v.toList ++ []) S') := ev_call i314_358 rfl
theorem i314_361 : insAt 314 361 = some (.aload_n 2, 1, (0, 0, 0, 0), 0) := rfl
theorem s314_361 {c : Nat → List AV → SS → Option Out} {l0 l1 l3 l4 l5 l6 l7 : Option AV} {o : OId} {L2 : List (Nat × AV)} {St : List AV} {S : SS} : ev c 314 361 [l0, l1, some (aR o), l3, l4, l5, l6, l7] L2 St S = ev c 314 362 [l0, l1, some (aR o), l3, l4, l5, l6, l7] L2 (aR o :: St) S := ev_go i314_361 rfl
theorem i314_362 : insAt 314 362 = some (.invokevirtual 159, 3, (224, 0, 2, 12), 0) := rfl
theorem s314_362 {c : Nat → List AV → SS → Option Out} {l0 l1 l2 l3 l4 l5 l6 l7 : Option AV} {t0 : AV} {j t : Nat} {L2 : List (Nat × AV)} {S : SS} : ev c 314 362 [l0, l1, l2, l3, l4, l5, l6, l7] L2 [aR (12, j, t), t0] S = ck (c 224 [aR (12, j, t)] S) (fun v S' => ev c 314 365 [l0, l1, l2, l3, l4, l5, l6, l7] L2 (v.toList ++ [t0]) S') := ev_call i314_362 rfl
theorem i314_365 : insAt 314 365 = some (.if_icmp .eq 2434, 3, (0, 0, 0, 0), 0) := rfl
theorem s314_365 {c : Nat → List AV → SS → Option Out} {l0 l1 l2 l3 l4 l5 l6 l7 : Option AV} {x y : Int32} {L2 : List (Nat × AV)} {St : List AV} {S : SS} : ev c 314 365 [l0, l1, l2, l3, l4, l5, l6, l7] L2 (aI y :: aI x :: St) S = if x = y then ev c 314 2799 [l0, l1, l2, l3, l4, l5, l6, l7] L2 St S else ev c 314 368 [l0, l1, l2, l3, l4, l5, l6, l7] L2 St S := ev_br i314_365 rfl
theorem i314_368 : insAt 314 368 = some (.iconst 0, 1, (0, 0, 0, 0), 0) := rfl
theorem s314_368 {c : Nat → List AV → SS → Option Out} {l0 l1 l2 l3 l4 l5 l6 l7 : Option AV} {L2 : List (Nat × AV)} {St : List AV} {S : SS} : ev c 314 368 [l0, l1, l2, l3, l4, l5, l6, l7] L2 St S = ev c 314 369 [l0, l1, l2, l3, l4, l5, l6, l7] L2 (aI 0 :: St) S := ev_go i314_368 rfl
theorem i314_369 : insAt 314 369 = some (.ireturn, 1, (0, 0, 0, 0), 0) := rfl
theorem s314_369 {c : Nat → List AV → SS → Option Out} {l0 l1 l2 l3 l4 l5 l6 l7 : Option AV} {x : Int32} {L2 : List (Nat × AV)} {St : List AV} {S : SS} : ev c 314 369 [l0, l1, l2, l3, l4, l5, l6, l7] L2 [aI x] S = if x = 0 ∨ x = 1 then some (.inl (some (aI x)), S) else none := ev_rt i314_369 rfl
theorem i314_370 : insAt 314 370 = some (.aload_n 1, 1, (0, 0, 0, 0), 0) := rfl
theorem s314_370 {c : Nat → List AV → SS → Option Out} {l0 l2 l3 l4 l5 l6 l7 : Option AV} {o : OId} {L2 : List (Nat × AV)} {St : List AV} {S : SS} : ev c 314 370 [l0, some (aR o), l2, l3, l4, l5, l6, l7] L2 St S = ev c 314 371 [l0, some (aR o), l2, l3, l4, l5, l6, l7] L2 (aR o :: St) S := ev_go i314_370 rfl
theorem i314_371 : insAt 314 371 = some (.invokevirtual 160, 3, (12, 0, 2, 11), 0) := rfl
theorem s314_371 {c : Nat → List AV → SS → Option Out} {l0 l1 l2 l3 l4 l5 l6 l7 : Option AV} {j t : Nat} {L2 : List (Nat × AV)} {S : SS} : ev c 314 371 [l0, l1, l2, l3, l4, l5, l6, l7] L2 [aR (11, j, t)] S = ck (c 12 [aR (11, j, t)] S) (fun v S' => ev c 314 374 [l0, l1, l2, l3, l4, l5, l6, l7] L2 (v.toList ++ []) S') := ev_call i314_371 rfl
theorem i314_374 : insAt 314 374 = some (.aload_n 2, 1, (0, 0, 0, 0), 0) := rfl
theorem s314_374 {c : Nat → List AV → SS → Option Out} {l0 l1 l3 l4 l5 l6 l7 : Option AV} {o : OId} {L2 : List (Nat × AV)} {St : List AV} {S : SS} : ev c 314 374 [l0, l1, some (aR o), l3, l4, l5, l6, l7] L2 St S = ev c 314 375 [l0, l1, some (aR o), l3, l4, l5, l6, l7] L2 (aR o :: St) S := ev_go i314_374 rfl
theorem i314_375 : insAt 314 375 = some (.invokevirtual 163, 3, (225, 0, 2, 12), 0) := rfl
theorem s314_375 {c : Nat → List AV → SS → Option Out} {l0 l1 l2 l3 l4 l5 l6 l7 : Option AV} {t0 : AV} {j t : Nat} {L2 : List (Nat × AV)} {S : SS} : ev c 314 375 [l0, l1, l2, l3, l4, l5, l6, l7] L2 [aR (12, j, t), t0] S = ck (c 225 [aR (12, j, t)] S) (fun v S' => ev c 314 378 [l0, l1, l2, l3, l4, l5, l6, l7] L2 (v.toList ++ [t0]) S') := ev_call i314_375 rfl
theorem i314_378 : insAt 314 378 = some (.if_icmp .eq 2421, 3, (0, 0, 0, 0), 0) := rfl
theorem s314_378 {c : Nat → List AV → SS → Option Out} {l0 l1 l2 l3 l4 l5 l6 l7 : Option AV} {x y : Int32} {L2 : List (Nat × AV)} {St : List AV} {S : SS} : ev c 314 378 [l0, l1, l2, l3, l4, l5, l6, l7] L2 (aI y :: aI x :: St) S = if x = y then ev c 314 2799 [l0, l1, l2, l3, l4, l5, l6, l7] L2 St S else ev c 314 381 [l0, l1, l2, l3, l4, l5, l6, l7] L2 St S := ev_br i314_378 rfl
theorem i314_381 : insAt 314 381 = some (.iconst 0, 1, (0, 0, 0, 0), 0) := rfl
theorem s314_381 {c : Nat → List AV → SS → Option Out} {l0 l1 l2 l3 l4 l5 l6 l7 : Option AV} {L2 : List (Nat × AV)} {St : List AV} {S : SS} : ev c 314 381 [l0, l1, l2, l3, l4, l5, l6, l7] L2 St S = ev c 314 382 [l0, l1, l2, l3, l4, l5, l6, l7] L2 (aI 0 :: St) S := ev_go i314_381 rfl
theorem i314_382 : insAt 314 382 = some (.ireturn, 1, (0, 0, 0, 0), 0) := rfl
theorem s314_382 {c : Nat → List AV → SS → Option Out} {l0 l1 l2 l3 l4 l5 l6 l7 : Option AV} {x : Int32} {L2 : List (Nat × AV)} {St : List AV} {S : SS} : ev c 314 382 [l0, l1, l2, l3, l4, l5, l6, l7] L2 [aI x] S = if x = 0 ∨ x = 1 then some (.inl (some (aI x)), S) else none := ev_rt i314_382 rfl
theorem i314_383 : insAt 314 383 = some (.aload_n 1, 1, (0, 0, 0, 0), 0) := rfl
theorem s314_383 {c : Nat → List AV → SS → Option Out} {l0 l2 l3 l4 l5 l6 l7 : Option AV} {o : OId} {L2 : List (Nat × AV)} {St : List AV} {S : SS} : ev c 314 383 [l0, some (aR o), l2, l3, l4, l5, l6, l7] L2 St S = ev c 314 384 [l0, some (aR o), l2, l3, l4, l5, l6, l7] L2 (aR o :: St) S := ev_go i314_383 rfl
theorem i314_384 : insAt 314 384 = some (.aload_n 0, 1, (0, 0, 0, 0), 0) := rfl
theorem s314_384 {c : Nat → List AV → SS → Option Out} {l1 l2 l3 l4 l5 l6 l7 : Option AV} {o : OId} {L2 : List (Nat × AV)} {St : List AV} {S : SS} : ev c 314 384 [some (aR o), l1, l2, l3, l4, l5, l6, l7] L2 St S = ev c 314 385 [some (aR o), l1, l2, l3, l4, l5, l6, l7] L2 (aR o :: St) S := ev_go i314_384 rfl
theorem i314_385 : insAt 314 385 = some (.iload 5, 2, (0, 0, 0, 0), 0) := rfl
theorem s314_385 {c : Nat → List AV → SS → Option Out} {l0 l1 l2 l3 l4 l6 l7 : Option AV} {x : Int32} {L2 : List (Nat × AV)} {St : List AV} {S : SS} : ev c 314 385 [l0, l1, l2, l3, l4, some (aI x), l6, l7] L2 St S = ev c 314 387 [l0, l1, l2, l3, l4, some (aI x), l6, l7] L2 (aI x :: St) S := ev_go i314_385 rfl
theorem i314_387 : insAt 314 387 = some (.iconst 1, 1, (0, 0, 0, 0), 0) := rfl
theorem s314_387 {c : Nat → List AV → SS → Option Out} {l0 l1 l2 l3 l4 l5 l6 l7 : Option AV} {L2 : List (Nat × AV)} {St : List AV} {S : SS} : ev c 314 387 [l0, l1, l2, l3, l4, l5, l6, l7] L2 St S = ev c 314 388 [l0, l1, l2, l3, l4, l5, l6, l7] L2 (aI 1 :: St) S := ev_go i314_387 rfl
theorem i314_388 : insAt 314 388 = some (.iadd, 1, (0, 0, 0, 0), 0) := rfl
theorem s314_388 {c : Nat → List AV → SS → Option Out} {l0 l1 l2 l3 l4 l5 l6 l7 : Option AV} {x y : Int32} {L2 : List (Nat × AV)} {St : List AV} {S : SS} : ev c 314 388 [l0, l1, l2, l3, l4, l5, l6, l7] L2 (aI y :: aI x :: St) S = ev c 314 389 [l0, l1, l2, l3, l4, l5, l6, l7] L2 (aI (x + y) :: St) S := ev_go i314_388 rfl
theorem i314_389 : insAt 314 389 = some (.iaload, 1, (0, 0, 0, 0), 0) := rfl
theorem s314_389 {c : Nat → List AV → SS → Option Out} {l0 l1 l2 l3 l4 l5 l6 l7 : Option AV} {i : Int32} {o : OId} {L2 : List (Nat × AV)} {St : List AV} {S : SS} : ev c 314 389 [l0, l1, l2, l3, l4, l5, l6, l7] L2 (aI i :: aR o :: St) S = kI o i (ev c 314 390 [l0, l1, l2, l3, l4, l5, l6, l7] L2 (aI (agI S o i.toNatClampNeg) :: St) S) := ev_iaload i314_389
theorem i314_390 : insAt 314 390 = some (.aload_n 0, 1, (0, 0, 0, 0), 0) := rfl
theorem s314_390 {c : Nat → List AV → SS → Option Out} {l1 l2 l3 l4 l5 l6 l7 : Option AV} {o : OId} {L2 : List (Nat × AV)} {St : List AV} {S : SS} : ev c 314 390 [some (aR o), l1, l2, l3, l4, l5, l6, l7] L2 St S = ev c 314 391 [some (aR o), l1, l2, l3, l4, l5, l6, l7] L2 (aR o :: St) S := ev_go i314_390 rfl
theorem i314_391 : insAt 314 391 = some (.iload 5, 2, (0, 0, 0, 0), 0) := rfl
theorem s314_391 {c : Nat → List AV → SS → Option Out} {l0 l1 l2 l3 l4 l6 l7 : Option AV} {x : Int32} {L2 : List (Nat × AV)} {St : List AV} {S : SS} : ev c 314 391 [l0, l1, l2, l3, l4, some (aI x), l6, l7] L2 St S = ev c 314 393 [l0, l1, l2, l3, l4, some (aI x), l6, l7] L2 (aI x :: St) S := ev_go i314_391 rfl
theorem i314_393 : insAt 314 393 = some (.iconst 2, 1, (0, 0, 0, 0), 0) := rfl
theorem s314_393 {c : Nat → List AV → SS → Option Out} {l0 l1 l2 l3 l4 l5 l6 l7 : Option AV} {L2 : List (Nat × AV)} {St : List AV} {S : SS} : ev c 314 393 [l0, l1, l2, l3, l4, l5, l6, l7] L2 St S = ev c 314 394 [l0, l1, l2, l3, l4, l5, l6, l7] L2 (aI 2 :: St) S := ev_go i314_393 rfl
theorem i314_394 : insAt 314 394 = some (.iadd, 1, (0, 0, 0, 0), 0) := rfl
theorem s314_394 {c : Nat → List AV → SS → Option Out} {l0 l1 l2 l3 l4 l5 l6 l7 : Option AV} {x y : Int32} {L2 : List (Nat × AV)} {St : List AV} {S : SS} : ev c 314 394 [l0, l1, l2, l3, l4, l5, l6, l7] L2 (aI y :: aI x :: St) S = ev c 314 395 [l0, l1, l2, l3, l4, l5, l6, l7] L2 (aI (x + y) :: St) S := ev_go i314_394 rfl
theorem i314_395 : insAt 314 395 = some (.iaload, 1, (0, 0, 0, 0), 0) := rfl
theorem s314_395 {c : Nat → List AV → SS → Option Out} {l0 l1 l2 l3 l4 l5 l6 l7 : Option AV} {i : Int32} {o : OId} {L2 : List (Nat × AV)} {St : List AV} {S : SS} : ev c 314 395 [l0, l1, l2, l3, l4, l5, l6, l7] L2 (aI i :: aR o :: St) S = kI o i (ev c 314 396 [l0, l1, l2, l3, l4, l5, l6, l7] L2 (aI (agI S o i.toNatClampNeg) :: St) S) := ev_iaload i314_395
theorem i314_396 : insAt 314 396 = some (.aload_n 0, 1, (0, 0, 0, 0), 0) := rfl
theorem s314_396 {c : Nat → List AV → SS → Option Out} {l1 l2 l3 l4 l5 l6 l7 : Option AV} {o : OId} {L2 : List (Nat × AV)} {St : List AV} {S : SS} : ev c 314 396 [some (aR o), l1, l2, l3, l4, l5, l6, l7] L2 St S = ev c 314 397 [some (aR o), l1, l2, l3, l4, l5, l6, l7] L2 (aR o :: St) S := ev_go i314_396 rfl
theorem i314_397 : insAt 314 397 = some (.iload 5, 2, (0, 0, 0, 0), 0) := rfl
theorem s314_397 {c : Nat → List AV → SS → Option Out} {l0 l1 l2 l3 l4 l6 l7 : Option AV} {x : Int32} {L2 : List (Nat × AV)} {St : List AV} {S : SS} : ev c 314 397 [l0, l1, l2, l3, l4, some (aI x), l6, l7] L2 St S = ev c 314 399 [l0, l1, l2, l3, l4, some (aI x), l6, l7] L2 (aI x :: St) S := ev_go i314_397 rfl
theorem i314_399 : insAt 314 399 = some (.iconst 3, 1, (0, 0, 0, 0), 0) := rfl
theorem s314_399 {c : Nat → List AV → SS → Option Out} {l0 l1 l2 l3 l4 l5 l6 l7 : Option AV} {L2 : List (Nat × AV)} {St : List AV} {S : SS} : ev c 314 399 [l0, l1, l2, l3, l4, l5, l6, l7] L2 St S = ev c 314 400 [l0, l1, l2, l3, l4, l5, l6, l7] L2 (aI 3 :: St) S := ev_go i314_399 rfl
theorem i314_400 : insAt 314 400 = some (.iadd, 1, (0, 0, 0, 0), 0) := rfl
theorem s314_400 {c : Nat → List AV → SS → Option Out} {l0 l1 l2 l3 l4 l5 l6 l7 : Option AV} {x y : Int32} {L2 : List (Nat × AV)} {St : List AV} {S : SS} : ev c 314 400 [l0, l1, l2, l3, l4, l5, l6, l7] L2 (aI y :: aI x :: St) S = ev c 314 401 [l0, l1, l2, l3, l4, l5, l6, l7] L2 (aI (x + y) :: St) S := ev_go i314_400 rfl
theorem i314_401 : insAt 314 401 = some (.iaload, 1, (0, 0, 0, 0), 0) := rfl
theorem s314_401 {c : Nat → List AV → SS → Option Out} {l0 l1 l2 l3 l4 l5 l6 l7 : Option AV} {i : Int32} {o : OId} {L2 : List (Nat × AV)} {St : List AV} {S : SS} : ev c 314 401 [l0, l1, l2, l3, l4, l5, l6, l7] L2 (aI i :: aR o :: St) S = kI o i (ev c 314 402 [l0, l1, l2, l3, l4, l5, l6, l7] L2 (aI (agI S o i.toNatClampNeg) :: St) S) := ev_iaload i314_401
theorem i314_402 : insAt 314 402 = some (.aload_n 3, 1, (0, 0, 0, 0), 0) := rfl
theorem s314_402 {c : Nat → List AV → SS → Option Out} {l0 l1 l2 l4 l5 l6 l7 : Option AV} {o : OId} {L2 : List (Nat × AV)} {St : List AV} {S : SS} : ev c 314 402 [l0, l1, l2, some (aR o), l4, l5, l6, l7] L2 St S = ev c 314 403 [l0, l1, l2, some (aR o), l4, l5, l6, l7] L2 (aR o :: St) S := ev_go i314_402 rfl
theorem i314_403 : insAt 314 403 = some (.invokestatic 164, 3, (64, 5, 0, 0), 0) := rfl
theorem s314_403 {c : Nat → List AV → SS → Option Out} {l0 l1 l2 l3 l4 l5 l6 l7 : Option AV} {a0 : OId} {a1 : Int32} {a2 : Int32} {a3 : Int32} {a4 : OId} {L2 : List (Nat × AV)} {S : SS} : ev c 314 403 [l0, l1, l2, l3, l4, l5, l6, l7] L2 [aR a4, aI a3, aI a2, aI a1, aR a0] S = ck (c 64 [aR a0, aI a1, aI a2, aI a3, aR a4] S) (fun v S' => ev c 314 406 [l0, l1, l2, l3, l4, l5, l6, l7] L2 (v.toList ++ []) S') := ev_call i314_403 rfl
theorem i314_406 : insAt 314 406 = some (.istore 6, 2, (0, 0, 0, 0), 0) := rfl
theorem s314_406 {c : Nat → List AV → SS → Option Out} {l0 l1 l2 l3 l4 l5 l6 l7 : Option AV} {x : Int32} {L2 : List (Nat × AV)} {St : List AV} {S : SS} : ev c 314 406 [l0, l1, l2, l3, l4, l5, l6, l7] L2 (aI x :: St) S = ev c 314 408 [l0, l1, l2, l3, l4, l5, some (aI x), l7] (kil L2 6) St S := ev_go i314_406 rfl
theorem i314_408 : insAt 314 408 = some (.aload_n 2, 1, (0, 0, 0, 0), 0) := rfl
theorem s314_408 {c : Nat → List AV → SS → Option Out} {l0 l1 l3 l4 l5 l6 l7 : Option AV} {o : OId} {L2 : List (Nat × AV)} {St : List AV} {S : SS} : ev c 314 408 [l0, l1, some (aR o), l3, l4, l5, l6, l7] L2 St S = ev c 314 409 [l0, l1, some (aR o), l3, l4, l5, l6, l7] L2 (aR o :: St) S := ev_go i314_408 rfl
theorem i314_409 : insAt 314 409 = some (.aload_n 0, 1, (0, 0, 0, 0), 0) := rfl
theorem s314_409 {c : Nat → List AV → SS → Option Out} {l1 l2 l3 l4 l5 l6 l7 : Option AV} {o : OId} {L2 : List (Nat × AV)} {St : List AV} {S : SS} : ev c 314 409 [some (aR o), l1, l2, l3, l4, l5, l6, l7] L2 St S = ev c 314 410 [some (aR o), l1, l2, l3, l4, l5, l6, l7] L2 (aR o :: St) S := ev_go i314_409 rfl
theorem i314_410 : insAt 314 410 = some (.iload 5, 2, (0, 0, 0, 0), 0) := rfl
theorem s314_410 {c : Nat → List AV → SS → Option Out} {l0 l1 l2 l3 l4 l6 l7 : Option AV} {x : Int32} {L2 : List (Nat × AV)} {St : List AV} {S : SS} : ev c 314 410 [l0, l1, l2, l3, l4, some (aI x), l6, l7] L2 St S = ev c 314 412 [l0, l1, l2, l3, l4, some (aI x), l6, l7] L2 (aI x :: St) S := ev_go i314_410 rfl
theorem i314_412 : insAt 314 412 = some (.iconst 1, 1, (0, 0, 0, 0), 0) := rfl
theorem s314_412 {c : Nat → List AV → SS → Option Out} {l0 l1 l2 l3 l4 l5 l6 l7 : Option AV} {L2 : List (Nat × AV)} {St : List AV} {S : SS} : ev c 314 412 [l0, l1, l2, l3, l4, l5, l6, l7] L2 St S = ev c 314 413 [l0, l1, l2, l3, l4, l5, l6, l7] L2 (aI 1 :: St) S := ev_go i314_412 rfl
theorem i314_413 : insAt 314 413 = some (.iadd, 1, (0, 0, 0, 0), 0) := rfl
theorem s314_413 {c : Nat → List AV → SS → Option Out} {l0 l1 l2 l3 l4 l5 l6 l7 : Option AV} {x y : Int32} {L2 : List (Nat × AV)} {St : List AV} {S : SS} : ev c 314 413 [l0, l1, l2, l3, l4, l5, l6, l7] L2 (aI y :: aI x :: St) S = ev c 314 414 [l0, l1, l2, l3, l4, l5, l6, l7] L2 (aI (x + y) :: St) S := ev_go i314_413 rfl
theorem i314_414 : insAt 314 414 = some (.iaload, 1, (0, 0, 0, 0), 0) := rfl
theorem s314_414 {c : Nat → List AV → SS → Option Out} {l0 l1 l2 l3 l4 l5 l6 l7 : Option AV} {i : Int32} {o : OId} {L2 : List (Nat × AV)} {St : List AV} {S : SS} : ev c 314 414 [l0, l1, l2, l3, l4, l5, l6, l7] L2 (aI i :: aR o :: St) S = kI o i (ev c 314 415 [l0, l1, l2, l3, l4, l5, l6, l7] L2 (aI (agI S o i.toNatClampNeg) :: St) S) := ev_iaload i314_414
theorem i314_415 : insAt 314 415 = some (.aload_n 0, 1, (0, 0, 0, 0), 0) := rfl
theorem s314_415 {c : Nat → List AV → SS → Option Out} {l1 l2 l3 l4 l5 l6 l7 : Option AV} {o : OId} {L2 : List (Nat × AV)} {St : List AV} {S : SS} : ev c 314 415 [some (aR o), l1, l2, l3, l4, l5, l6, l7] L2 St S = ev c 314 416 [some (aR o), l1, l2, l3, l4, l5, l6, l7] L2 (aR o :: St) S := ev_go i314_415 rfl
theorem i314_416 : insAt 314 416 = some (.iload 5, 2, (0, 0, 0, 0), 0) := rfl
theorem s314_416 {c : Nat → List AV → SS → Option Out} {l0 l1 l2 l3 l4 l6 l7 : Option AV} {x : Int32} {L2 : List (Nat × AV)} {St : List AV} {S : SS} : ev c 314 416 [l0, l1, l2, l3, l4, some (aI x), l6, l7] L2 St S = ev c 314 418 [l0, l1, l2, l3, l4, some (aI x), l6, l7] L2 (aI x :: St) S := ev_go i314_416 rfl
theorem i314_418 : insAt 314 418 = some (.iconst 2, 1, (0, 0, 0, 0), 0) := rfl
theorem s314_418 {c : Nat → List AV → SS → Option Out} {l0 l1 l2 l3 l4 l5 l6 l7 : Option AV} {L2 : List (Nat × AV)} {St : List AV} {S : SS} : ev c 314 418 [l0, l1, l2, l3, l4, l5, l6, l7] L2 St S = ev c 314 419 [l0, l1, l2, l3, l4, l5, l6, l7] L2 (aI 2 :: St) S := ev_go i314_418 rfl
theorem i314_419 : insAt 314 419 = some (.iadd, 1, (0, 0, 0, 0), 0) := rfl
theorem s314_419 {c : Nat → List AV → SS → Option Out} {l0 l1 l2 l3 l4 l5 l6 l7 : Option AV} {x y : Int32} {L2 : List (Nat × AV)} {St : List AV} {S : SS} : ev c 314 419 [l0, l1, l2, l3, l4, l5, l6, l7] L2 (aI y :: aI x :: St) S = ev c 314 420 [l0, l1, l2, l3, l4, l5, l6, l7] L2 (aI (x + y) :: St) S := ev_go i314_419 rfl
theorem i314_420 : insAt 314 420 = some (.iaload, 1, (0, 0, 0, 0), 0) := rfl
theorem s314_420 {c : Nat → List AV → SS → Option Out} {l0 l1 l2 l3 l4 l5 l6 l7 : Option AV} {i : Int32} {o : OId} {L2 : List (Nat × AV)} {St : List AV} {S : SS} : ev c 314 420 [l0, l1, l2, l3, l4, l5, l6, l7] L2 (aI i :: aR o :: St) S = kI o i (ev c 314 421 [l0, l1, l2, l3, l4, l5, l6, l7] L2 (aI (agI S o i.toNatClampNeg) :: St) S) := ev_iaload i314_420
theorem i314_421 : insAt 314 421 = some (.aload_n 0, 1, (0, 0, 0, 0), 0) := rfl
theorem s314_421 {c : Nat → List AV → SS → Option Out} {l1 l2 l3 l4 l5 l6 l7 : Option AV} {o : OId} {L2 : List (Nat × AV)} {St : List AV} {S : SS} : ev c 314 421 [some (aR o), l1, l2, l3, l4, l5, l6, l7] L2 St S = ev c 314 422 [some (aR o), l1, l2, l3, l4, l5, l6, l7] L2 (aR o :: St) S := ev_go i314_421 rfl
theorem i314_422 : insAt 314 422 = some (.iload 5, 2, (0, 0, 0, 0), 0) := rfl
theorem s314_422 {c : Nat → List AV → SS → Option Out} {l0 l1 l2 l3 l4 l6 l7 : Option AV} {x : Int32} {L2 : List (Nat × AV)} {St : List AV} {S : SS} : ev c 314 422 [l0, l1, l2, l3, l4, some (aI x), l6, l7] L2 St S = ev c 314 424 [l0, l1, l2, l3, l4, some (aI x), l6, l7] L2 (aI x :: St) S := ev_go i314_422 rfl
theorem i314_424 : insAt 314 424 = some (.iconst 3, 1, (0, 0, 0, 0), 0) := rfl
theorem s314_424 {c : Nat → List AV → SS → Option Out} {l0 l1 l2 l3 l4 l5 l6 l7 : Option AV} {L2 : List (Nat × AV)} {St : List AV} {S : SS} : ev c 314 424 [l0, l1, l2, l3, l4, l5, l6, l7] L2 St S = ev c 314 425 [l0, l1, l2, l3, l4, l5, l6, l7] L2 (aI 3 :: St) S := ev_go i314_424 rfl
theorem i314_425 : insAt 314 425 = some (.iadd, 1, (0, 0, 0, 0), 0) := rfl
theorem s314_425 {c : Nat → List AV → SS → Option Out} {l0 l1 l2 l3 l4 l5 l6 l7 : Option AV} {x y : Int32} {L2 : List (Nat × AV)} {St : List AV} {S : SS} : ev c 314 425 [l0, l1, l2, l3, l4, l5, l6, l7] L2 (aI y :: aI x :: St) S = ev c 314 426 [l0, l1, l2, l3, l4, l5, l6, l7] L2 (aI (x + y) :: St) S := ev_go i314_425 rfl
theorem i314_426 : insAt 314 426 = some (.iaload, 1, (0, 0, 0, 0), 0) := rfl
theorem s314_426 {c : Nat → List AV → SS → Option Out} {l0 l1 l2 l3 l4 l5 l6 l7 : Option AV} {i : Int32} {o : OId} {L2 : List (Nat × AV)} {St : List AV} {S : SS} : ev c 314 426 [l0, l1, l2, l3, l4, l5, l6, l7] L2 (aI i :: aR o :: St) S = kI o i (ev c 314 427 [l0, l1, l2, l3, l4, l5, l6, l7] L2 (aI (agI S o i.toNatClampNeg) :: St) S) := ev_iaload i314_426
theorem i314_427 : insAt 314 427 = some (.invokevirtual 166, 3, (226, 3, 2, 12), 0) := rfl
theorem s314_427 {c : Nat → List AV → SS → Option Out} {l0 l1 l2 l3 l4 l5 l6 l7 : Option AV} {a0 : Int32} {a1 : Int32} {a2 : Int32} {j t : Nat} {L2 : List (Nat × AV)} {S : SS} : ev c 314 427 [l0, l1, l2, l3, l4, l5, l6, l7] L2 [aI a2, aI a1, aI a0, aR (12, j, t)] S = ck (c 226 [aR (12, j, t), aI a0, aI a1, aI a2] S) (fun v S' => ev c 314 430 [l0, l1, l2, l3, l4, l5, l6, l7] L2 (v.toList ++ []) S') := ev_call i314_427 rfl
theorem i314_430 : insAt 314 430 = some (.istore 7, 2, (0, 0, 0, 0), 0) := rfl
theorem s314_430 {c : Nat → List AV → SS → Option Out} {l0 l1 l2 l3 l4 l5 l6 l7 : Option AV} {x : Int32} {L2 : List (Nat × AV)} {St : List AV} {S : SS} : ev c 314 430 [l0, l1, l2, l3, l4, l5, l6, l7] L2 (aI x :: St) S = ev c 314 432 [l0, l1, l2, l3, l4, l5, l6, some (aI x)] (kil L2 7) St S := ev_go i314_430 rfl
theorem i314_432 : insAt 314 432 = some (.aload_n 2, 1, (0, 0, 0, 0), 0) := rfl
theorem s314_432 {c : Nat → List AV → SS → Option Out} {l0 l1 l3 l4 l5 l6 l7 : Option AV} {o : OId} {L2 : List (Nat × AV)} {St : List AV} {S : SS} : ev c 314 432 [l0, l1, some (aR o), l3, l4, l5, l6, l7] L2 St S = ev c 314 433 [l0, l1, some (aR o), l3, l4, l5, l6, l7] L2 (aR o :: St) S := ev_go i314_432 rfl
theorem i314_433 : insAt 314 433 = some (.invokevirtual 149, 3, (218, 0, 2, 12), 0) := rfl
theorem s314_433 {c : Nat → List AV → SS → Option Out} {l0 l1 l2 l3 l4 l5 l6 l7 : Option AV} {j t : Nat} {L2 : List (Nat × AV)} {S : SS} : ev c 314 433 [l0, l1, l2, l3, l4, l5, l6, l7] L2 [aR (12, j, t)] S = ck (c 218 [aR (12, j, t)] S) (fun v S' => ev c 314 436 [l0, l1, l2, l3, l4, l5, l6, l7] L2 (v.toList ++ []) S') := ev_call i314_433 rfl
theorem i314_436 : insAt 314 436 = some (.iload 6, 2, (0, 0, 0, 0), 0) := rfl
theorem s314_436 {c : Nat → List AV → SS → Option Out} {l0 l1 l2 l3 l4 l5 l7 : Option AV} {x : Int32} {L2 : List (Nat × AV)} {St : List AV} {S : SS} : ev c 314 436 [l0, l1, l2, l3, l4, l5, some (aI x), l7] L2 St S = ev c 314 438 [l0, l1, l2, l3, l4, l5, some (aI x), l7] L2 (aI x :: St) S := ev_go i314_436 rfl
theorem i314_438 : insAt 314 438 = some (.if_icmp .eq 5, 3, (0, 0, 0, 0), 0) := rfl
theorem s314_438 {c : Nat → List AV → SS → Option Out} {l0 l1 l2 l3 l4 l5 l6 l7 : Option AV} {x y : Int32} {L2 : List (Nat × AV)} {St : List AV} {S : SS} : ev c 314 438 [l0, l1, l2, l3, l4, l5, l6, l7] L2 (aI y :: aI x :: St) S = if x = y then ev c 314 443 [l0, l1, l2, l3, l4, l5, l6, l7] L2 St S else ev c 314 441 [l0, l1, l2, l3, l4, l5, l6, l7] L2 St S := ev_br i314_438 rfl
theorem i314_441 : insAt 314 441 = some (.iconst 0, 1, (0, 0, 0, 0), 0) := rfl
theorem s314_441 {c : Nat → List AV → SS → Option Out} {l0 l1 l2 l3 l4 l5 l6 l7 : Option AV} {L2 : List (Nat × AV)} {St : List AV} {S : SS} : ev c 314 441 [l0, l1, l2, l3, l4, l5, l6, l7] L2 St S = ev c 314 442 [l0, l1, l2, l3, l4, l5, l6, l7] L2 (aI 0 :: St) S := ev_go i314_441 rfl
theorem i314_442 : insAt 314 442 = some (.ireturn, 1, (0, 0, 0, 0), 0) := rfl
theorem s314_442 {c : Nat → List AV → SS → Option Out} {l0 l1 l2 l3 l4 l5 l6 l7 : Option AV} {x : Int32} {L2 : List (Nat × AV)} {St : List AV} {S : SS} : ev c 314 442 [l0, l1, l2, l3, l4, l5, l6, l7] L2 [aI x] S = if x = 0 ∨ x = 1 then some (.inl (some (aI x)), S) else none := ev_rt i314_442 rfl
theorem i314_443 : insAt 314 443 = some (.iload 6, 2, (0, 0, 0, 0), 0) := rfl
theorem s314_443 {c : Nat → List AV → SS → Option Out} {l0 l1 l2 l3 l4 l5 l7 : Option AV} {x : Int32} {L2 : List (Nat × AV)} {St : List AV} {S : SS} : ev c 314 443 [l0, l1, l2, l3, l4, l5, some (aI x), l7] L2 St S = ev c 314 445 [l0, l1, l2, l3, l4, l5, some (aI x), l7] L2 (aI x :: St) S := ev_go i314_443 rfl
theorem i314_445 : insAt 314 445 = some (.ifCond .ne 15, 3, (0, 0, 0, 0), 0) := rfl
theorem s314_445 {c : Nat → List AV → SS → Option Out} {l0 l1 l2 l3 l4 l5 l6 l7 : Option AV} {x : Int32} {L2 : List (Nat × AV)} {St : List AV} {S : SS} : ev c 314 445 [l0, l1, l2, l3, l4, l5, l6, l7] L2 (aI x :: St) S = if x = 0 then ev c 314 448 [l0, l1, l2, l3, l4, l5, l6, l7] L2 St S else ev c 314 460 [l0, l1, l2, l3, l4, l5, l6, l7] L2 St S := (ev_br i314_445 rfl).trans (ite_not _ _ _)
theorem i314_448 : insAt 314 448 = some (.aload_n 3, 1, (0, 0, 0, 0), 0) := rfl
theorem s314_448 {c : Nat → List AV → SS → Option Out} {l0 l1 l2 l4 l5 l6 l7 : Option AV} {o : OId} {L2 : List (Nat × AV)} {St : List AV} {S : SS} : ev c 314 448 [l0, l1, l2, some (aR o), l4, l5, l6, l7] L2 St S = ev c 314 449 [l0, l1, l2, some (aR o), l4, l5, l6, l7] L2 (aR o :: St) S := ev_go i314_448 rfl
theorem i314_449 : insAt 314 449 = some (.iconst 0, 1, (0, 0, 0, 0), 0) := rfl
theorem s314_449 {c : Nat → List AV → SS → Option Out} {l0 l1 l2 l3 l4 l5 l6 l7 : Option AV} {L2 : List (Nat × AV)} {St : List AV} {S : SS} : ev c 314 449 [l0, l1, l2, l3, l4, l5, l6, l7] L2 St S = ev c 314 450 [l0, l1, l2, l3, l4, l5, l6, l7] L2 (aI 0 :: St) S := ev_go i314_449 rfl
theorem i314_450 : insAt 314 450 = some (.laload, 1, (0, 0, 0, 0), 0) := rfl
theorem s314_450 {c : Nat → List AV → SS → Option Out} {l0 l1 l2 l3 l4 l5 l6 l7 : Option AV} {i : Int32} {o : OId} {L2 : List (Nat × AV)} {St : List AV} {S : SS} : ev c 314 450 [l0, l1, l2, l3, l4, l5, l6, l7] L2 (aI i :: aR o :: St) S = kJ o i (ev c 314 451 [l0, l1, l2, l3, l4, l5, l6, l7] L2 (aL (toL (S.2.1 o i.toNatClampNeg)) :: St) S) := ev_laload i314_450
theorem i314_451 : insAt 314 451 = some (.iload 7, 2, (0, 0, 0, 0), 0) := rfl
theorem s314_451 {c : Nat → List AV → SS → Option Out} {l0 l1 l2 l3 l4 l5 l6 : Option AV} {x : Int32} {L2 : List (Nat × AV)} {St : List AV} {S : SS} : ev c 314 451 [l0, l1, l2, l3, l4, l5, l6, some (aI x)] L2 St S = ev c 314 453 [l0, l1, l2, l3, l4, l5, l6, some (aI x)] L2 (aI x :: St) S := ev_go i314_451 rfl
theorem i314_453 : insAt 314 453 = some (.i2l, 1, (0, 0, 0, 0), 0) := rfl
theorem s314_453 {c : Nat → List AV → SS → Option Out} {l0 l1 l2 l3 l4 l5 l6 l7 : Option AV} {x : Int32} {L2 : List (Nat × AV)} {St : List AV} {S : SS} : ev c 314 453 [l0, l1, l2, l3, l4, l5, l6, l7] L2 (aI x :: St) S = ev c 314 454 [l0, l1, l2, l3, l4, l5, l6, l7] L2 (aL x.toInt64 :: St) S := ev_go i314_453 rfl
theorem i314_454 : insAt 314 454 = some (.lcmp, 1, (0, 0, 0, 0), 0) := rfl
theorem s314_454 {c : Nat → List AV → SS → Option Out} {l0 l1 l2 l3 l4 l5 l6 l7 : Option AV} {x y : Int64} {L2 : List (Nat × AV)} {St : List AV} {S : SS} : ev c 314 454 [l0, l1, l2, l3, l4, l5, l6, l7] L2 (aL y :: aL x :: St) S = ev c 314 455 [l0, l1, l2, l3, l4, l5, l6, l7] L2 (aI (if x < y then -1 else if x = y then 0 else 1) :: St) S := ev_go i314_454 rfl
theorem i314_455 : insAt 314 455 = some (.ifCond .eq 5, 3, (0, 0, 0, 0), 0) := rfl
theorem s314_455 {c : Nat → List AV → SS → Option Out} {l0 l1 l2 l3 l4 l5 l6 l7 : Option AV} {x : Int32} {L2 : List (Nat × AV)} {St : List AV} {S : SS} : ev c 314 455 [l0, l1, l2, l3, l4, l5, l6, l7] L2 (aI x :: St) S = if x = 0 then ev c 314 460 [l0, l1, l2, l3, l4, l5, l6, l7] L2 St S else ev c 314 458 [l0, l1, l2, l3, l4, l5, l6, l7] L2 St S := ev_br i314_455 rfl
theorem i314_458 : insAt 314 458 = some (.iconst 0, 1, (0, 0, 0, 0), 0) := rfl
theorem s314_458 {c : Nat → List AV → SS → Option Out} {l0 l1 l2 l3 l4 l5 l6 l7 : Option AV} {L2 : List (Nat × AV)} {St : List AV} {S : SS} : ev c 314 458 [l0, l1, l2, l3, l4, l5, l6, l7] L2 St S = ev c 314 459 [l0, l1, l2, l3, l4, l5, l6, l7] L2 (aI 0 :: St) S := ev_go i314_458 rfl
theorem i314_459 : insAt 314 459 = some (.ireturn, 1, (0, 0, 0, 0), 0) := rfl
theorem s314_459 {c : Nat → List AV → SS → Option Out} {l0 l1 l2 l3 l4 l5 l6 l7 : Option AV} {x : Int32} {L2 : List (Nat × AV)} {St : List AV} {S : SS} : ev c 314 459 [l0, l1, l2, l3, l4, l5, l6, l7] L2 [aI x] S = if x = 0 ∨ x = 1 then some (.inl (some (aI x)), S) else none := ev_rt i314_459 rfl
theorem i314_460 : insAt 314 460 = some (.goto 2339, 3, (0, 0, 0, 0), 0) := rfl
theorem s314_460 {c : Nat → List AV → SS → Option Out} {l0 l1 l2 l3 l4 l5 l6 l7 : Option AV} {L2 : List (Nat × AV)} {St : List AV} {S : SS} : ev c 314 460 [l0, l1, l2, l3, l4, l5, l6, l7] L2 St S = ev c 314 2799 [l0, l1, l2, l3, l4, l5, l6, l7] L2 St S := ev_go i314_460 rfl
theorem i314_463 : insAt 314 463 = some (.aload_n 1, 1, (0, 0, 0, 0), 0) := rfl
theorem s314_463 {c : Nat → List AV → SS → Option Out} {l0 l2 l3 l4 l5 l6 l7 : Option AV} {o : OId} {L2 : List (Nat × AV)} {St : List AV} {S : SS} : ev c 314 463 [l0, some (aR o), l2, l3, l4, l5, l6, l7] L2 St S = ev c 314 464 [l0, some (aR o), l2, l3, l4, l5, l6, l7] L2 (aR o :: St) S := ev_go i314_463 rfl
theorem i314_464 : insAt 314 464 = some (.aload_n 0, 1, (0, 0, 0, 0), 0) := rfl
theorem s314_464 {c : Nat → List AV → SS → Option Out} {l1 l2 l3 l4 l5 l6 l7 : Option AV} {o : OId} {L2 : List (Nat × AV)} {St : List AV} {S : SS} : ev c 314 464 [some (aR o), l1, l2, l3, l4, l5, l6, l7] L2 St S = ev c 314 465 [some (aR o), l1, l2, l3, l4, l5, l6, l7] L2 (aR o :: St) S := ev_go i314_464 rfl
theorem i314_465 : insAt 314 465 = some (.iload 5, 2, (0, 0, 0, 0), 0) := rfl
theorem s314_465 {c : Nat → List AV → SS → Option Out} {l0 l1 l2 l3 l4 l6 l7 : Option AV} {x : Int32} {L2 : List (Nat × AV)} {St : List AV} {S : SS} : ev c 314 465 [l0, l1, l2, l3, l4, some (aI x), l6, l7] L2 St S = ev c 314 467 [l0, l1, l2, l3, l4, some (aI x), l6, l7] L2 (aI x :: St) S := ev_go i314_465 rfl
theorem i314_467 : insAt 314 467 = some (.iconst 1, 1, (0, 0, 0, 0), 0) := rfl
theorem s314_467 {c : Nat → List AV → SS → Option Out} {l0 l1 l2 l3 l4 l5 l6 l7 : Option AV} {L2 : List (Nat × AV)} {St : List AV} {S : SS} : ev c 314 467 [l0, l1, l2, l3, l4, l5, l6, l7] L2 St S = ev c 314 468 [l0, l1, l2, l3, l4, l5, l6, l7] L2 (aI 1 :: St) S := ev_go i314_467 rfl
theorem i314_468 : insAt 314 468 = some (.iadd, 1, (0, 0, 0, 0), 0) := rfl
theorem s314_468 {c : Nat → List AV → SS → Option Out} {l0 l1 l2 l3 l4 l5 l6 l7 : Option AV} {x y : Int32} {L2 : List (Nat × AV)} {St : List AV} {S : SS} : ev c 314 468 [l0, l1, l2, l3, l4, l5, l6, l7] L2 (aI y :: aI x :: St) S = ev c 314 469 [l0, l1, l2, l3, l4, l5, l6, l7] L2 (aI (x + y) :: St) S := ev_go i314_468 rfl
theorem i314_469 : insAt 314 469 = some (.iaload, 1, (0, 0, 0, 0), 0) := rfl
theorem s314_469 {c : Nat → List AV → SS → Option Out} {l0 l1 l2 l3 l4 l5 l6 l7 : Option AV} {i : Int32} {o : OId} {L2 : List (Nat × AV)} {St : List AV} {S : SS} : ev c 314 469 [l0, l1, l2, l3, l4, l5, l6, l7] L2 (aI i :: aR o :: St) S = kI o i (ev c 314 470 [l0, l1, l2, l3, l4, l5, l6, l7] L2 (aI (agI S o i.toNatClampNeg) :: St) S) := ev_iaload i314_469
theorem i314_470 : insAt 314 470 = some (.aload_n 0, 1, (0, 0, 0, 0), 0) := rfl
theorem s314_470 {c : Nat → List AV → SS → Option Out} {l1 l2 l3 l4 l5 l6 l7 : Option AV} {o : OId} {L2 : List (Nat × AV)} {St : List AV} {S : SS} : ev c 314 470 [some (aR o), l1, l2, l3, l4, l5, l6, l7] L2 St S = ev c 314 471 [some (aR o), l1, l2, l3, l4, l5, l6, l7] L2 (aR o :: St) S := ev_go i314_470 rfl
theorem i314_471 : insAt 314 471 = some (.iload 5, 2, (0, 0, 0, 0), 0) := rfl
theorem s314_471 {c : Nat → List AV → SS → Option Out} {l0 l1 l2 l3 l4 l6 l7 : Option AV} {x : Int32} {L2 : List (Nat × AV)} {St : List AV} {S : SS} : ev c 314 471 [l0, l1, l2, l3, l4, some (aI x), l6, l7] L2 St S = ev c 314 473 [l0, l1, l2, l3, l4, some (aI x), l6, l7] L2 (aI x :: St) S := ev_go i314_471 rfl
theorem i314_473 : insAt 314 473 = some (.iconst 2, 1, (0, 0, 0, 0), 0) := rfl
theorem s314_473 {c : Nat → List AV → SS → Option Out} {l0 l1 l2 l3 l4 l5 l6 l7 : Option AV} {L2 : List (Nat × AV)} {St : List AV} {S : SS} : ev c 314 473 [l0, l1, l2, l3, l4, l5, l6, l7] L2 St S = ev c 314 474 [l0, l1, l2, l3, l4, l5, l6, l7] L2 (aI 2 :: St) S := ev_go i314_473 rfl
theorem i314_474 : insAt 314 474 = some (.iadd, 1, (0, 0, 0, 0), 0) := rfl
theorem s314_474 {c : Nat → List AV → SS → Option Out} {l0 l1 l2 l3 l4 l5 l6 l7 : Option AV} {x y : Int32} {L2 : List (Nat × AV)} {St : List AV} {S : SS} : ev c 314 474 [l0, l1, l2, l3, l4, l5, l6, l7] L2 (aI y :: aI x :: St) S = ev c 314 475 [l0, l1, l2, l3, l4, l5, l6, l7] L2 (aI (x + y) :: St) S := ev_go i314_474 rfl
theorem i314_475 : insAt 314 475 = some (.iaload, 1, (0, 0, 0, 0), 0) := rfl
theorem s314_475 {c : Nat → List AV → SS → Option Out} {l0 l1 l2 l3 l4 l5 l6 l7 : Option AV} {i : Int32} {o : OId} {L2 : List (Nat × AV)} {St : List AV} {S : SS} : ev c 314 475 [l0, l1, l2, l3, l4, l5, l6, l7] L2 (aI i :: aR o :: St) S = kI o i (ev c 314 476 [l0, l1, l2, l3, l4, l5, l6, l7] L2 (aI (agI S o i.toNatClampNeg) :: St) S) := ev_iaload i314_475
theorem i314_476 : insAt 314 476 = some (.aload_n 0, 1, (0, 0, 0, 0), 0) := rfl
theorem s314_476 {c : Nat → List AV → SS → Option Out} {l1 l2 l3 l4 l5 l6 l7 : Option AV} {o : OId} {L2 : List (Nat × AV)} {St : List AV} {S : SS} : ev c 314 476 [some (aR o), l1, l2, l3, l4, l5, l6, l7] L2 St S = ev c 314 477 [some (aR o), l1, l2, l3, l4, l5, l6, l7] L2 (aR o :: St) S := ev_go i314_476 rfl
theorem i314_477 : insAt 314 477 = some (.iload 5, 2, (0, 0, 0, 0), 0) := rfl
theorem s314_477 {c : Nat → List AV → SS → Option Out} {l0 l1 l2 l3 l4 l6 l7 : Option AV} {x : Int32} {L2 : List (Nat × AV)} {St : List AV} {S : SS} : ev c 314 477 [l0, l1, l2, l3, l4, some (aI x), l6, l7] L2 St S = ev c 314 479 [l0, l1, l2, l3, l4, some (aI x), l6, l7] L2 (aI x :: St) S := ev_go i314_477 rfl
theorem i314_479 : insAt 314 479 = some (.iconst 3, 1, (0, 0, 0, 0), 0) := rfl
theorem s314_479 {c : Nat → List AV → SS → Option Out} {l0 l1 l2 l3 l4 l5 l6 l7 : Option AV} {L2 : List (Nat × AV)} {St : List AV} {S : SS} : ev c 314 479 [l0, l1, l2, l3, l4, l5, l6, l7] L2 St S = ev c 314 480 [l0, l1, l2, l3, l4, l5, l6, l7] L2 (aI 3 :: St) S := ev_go i314_479 rfl
theorem i314_480 : insAt 314 480 = some (.iadd, 1, (0, 0, 0, 0), 0) := rfl
theorem s314_480 {c : Nat → List AV → SS → Option Out} {l0 l1 l2 l3 l4 l5 l6 l7 : Option AV} {x y : Int32} {L2 : List (Nat × AV)} {St : List AV} {S : SS} : ev c 314 480 [l0, l1, l2, l3, l4, l5, l6, l7] L2 (aI y :: aI x :: St) S = ev c 314 481 [l0, l1, l2, l3, l4, l5, l6, l7] L2 (aI (x + y) :: St) S := ev_go i314_480 rfl
theorem i314_481 : insAt 314 481 = some (.iaload, 1, (0, 0, 0, 0), 0) := rfl
theorem s314_481 {c : Nat → List AV → SS → Option Out} {l0 l1 l2 l3 l4 l5 l6 l7 : Option AV} {i : Int32} {o : OId} {L2 : List (Nat × AV)} {St : List AV} {S : SS} : ev c 314 481 [l0, l1, l2, l3, l4, l5, l6, l7] L2 (aI i :: aR o :: St) S = kI o i (ev c 314 482 [l0, l1, l2, l3, l4, l5, l6, l7] L2 (aI (agI S o i.toNatClampNeg) :: St) S) := ev_iaload i314_481
theorem i314_482 : insAt 314 482 = some (.aload_n 3, 1, (0, 0, 0, 0), 0) := rfl
theorem s314_482 {c : Nat → List AV → SS → Option Out} {l0 l1 l2 l4 l5 l6 l7 : Option AV} {o : OId} {L2 : List (Nat × AV)} {St : List AV} {S : SS} : ev c 314 482 [l0, l1, l2, some (aR o), l4, l5, l6, l7] L2 St S = ev c 314 483 [l0, l1, l2, some (aR o), l4, l5, l6, l7] L2 (aR o :: St) S := ev_go i314_482 rfl
theorem i314_483 : insAt 314 483 = some (.invokestatic 167, 3, (86, 5, 0, 0), 0) := rfl
theorem s314_483 {c : Nat → List AV → SS → Option Out} {l0 l1 l2 l3 l4 l5 l6 l7 : Option AV} {a0 : OId} {a1 : Int32} {a2 : Int32} {a3 : Int32} {a4 : OId} {L2 : List (Nat × AV)} {S : SS} : ev c 314 483 [l0, l1, l2, l3, l4, l5, l6, l7] L2 [aR a4, aI a3, aI a2, aI a1, aR a0] S = ck (c 86 [aR a0, aI a1, aI a2, aI a3, aR a4] S) (fun v S' => ev c 314 486 [l0, l1, l2, l3, l4, l5, l6, l7] L2 (v.toList ++ []) S') := ev_call i314_483 rfl
theorem i314_486 : insAt 314 486 = some (.istore 6, 2, (0, 0, 0, 0), 0) := rfl
theorem s314_486 {c : Nat → List AV → SS → Option Out} {l0 l1 l2 l3 l4 l5 l6 l7 : Option AV} {x : Int32} {L2 : List (Nat × AV)} {St : List AV} {S : SS} : ev c 314 486 [l0, l1, l2, l3, l4, l5, l6, l7] L2 (aI x :: St) S = ev c 314 488 [l0, l1, l2, l3, l4, l5, some (aI x), l7] (kil L2 6) St S := ev_go i314_486 rfl
theorem i314_488 : insAt 314 488 = some (.aload_n 2, 1, (0, 0, 0, 0), 0) := rfl
theorem s314_488 {c : Nat → List AV → SS → Option Out} {l0 l1 l3 l4 l5 l6 l7 : Option AV} {o : OId} {L2 : List (Nat × AV)} {St : List AV} {S : SS} : ev c 314 488 [l0, l1, some (aR o), l3, l4, l5, l6, l7] L2 St S = ev c 314 489 [l0, l1, some (aR o), l3, l4, l5, l6, l7] L2 (aR o :: St) S := ev_go i314_488 rfl
theorem i314_489 : insAt 314 489 = some (.aload_n 0, 1, (0, 0, 0, 0), 0) := rfl
theorem s314_489 {c : Nat → List AV → SS → Option Out} {l1 l2 l3 l4 l5 l6 l7 : Option AV} {o : OId} {L2 : List (Nat × AV)} {St : List AV} {S : SS} : ev c 314 489 [some (aR o), l1, l2, l3, l4, l5, l6, l7] L2 St S = ev c 314 490 [some (aR o), l1, l2, l3, l4, l5, l6, l7] L2 (aR o :: St) S := ev_go i314_489 rfl
theorem i314_490 : insAt 314 490 = some (.iload 5, 2, (0, 0, 0, 0), 0) := rfl
theorem s314_490 {c : Nat → List AV → SS → Option Out} {l0 l1 l2 l3 l4 l6 l7 : Option AV} {x : Int32} {L2 : List (Nat × AV)} {St : List AV} {S : SS} : ev c 314 490 [l0, l1, l2, l3, l4, some (aI x), l6, l7] L2 St S = ev c 314 492 [l0, l1, l2, l3, l4, some (aI x), l6, l7] L2 (aI x :: St) S := ev_go i314_490 rfl
theorem i314_492 : insAt 314 492 = some (.iconst 1, 1, (0, 0, 0, 0), 0) := rfl
theorem s314_492 {c : Nat → List AV → SS → Option Out} {l0 l1 l2 l3 l4 l5 l6 l7 : Option AV} {L2 : List (Nat × AV)} {St : List AV} {S : SS} : ev c 314 492 [l0, l1, l2, l3, l4, l5, l6, l7] L2 St S = ev c 314 493 [l0, l1, l2, l3, l4, l5, l6, l7] L2 (aI 1 :: St) S := ev_go i314_492 rfl
theorem i314_493 : insAt 314 493 = some (.iadd, 1, (0, 0, 0, 0), 0) := rfl
theorem s314_493 {c : Nat → List AV → SS → Option Out} {l0 l1 l2 l3 l4 l5 l6 l7 : Option AV} {x y : Int32} {L2 : List (Nat × AV)} {St : List AV} {S : SS} : ev c 314 493 [l0, l1, l2, l3, l4, l5, l6, l7] L2 (aI y :: aI x :: St) S = ev c 314 494 [l0, l1, l2, l3, l4, l5, l6, l7] L2 (aI (x + y) :: St) S := ev_go i314_493 rfl
theorem i314_494 : insAt 314 494 = some (.iaload, 1, (0, 0, 0, 0), 0) := rfl
theorem s314_494 {c : Nat → List AV → SS → Option Out} {l0 l1 l2 l3 l4 l5 l6 l7 : Option AV} {i : Int32} {o : OId} {L2 : List (Nat × AV)} {St : List AV} {S : SS} : ev c 314 494 [l0, l1, l2, l3, l4, l5, l6, l7] L2 (aI i :: aR o :: St) S = kI o i (ev c 314 495 [l0, l1, l2, l3, l4, l5, l6, l7] L2 (aI (agI S o i.toNatClampNeg) :: St) S) := ev_iaload i314_494
theorem i314_495 : insAt 314 495 = some (.aload_n 0, 1, (0, 0, 0, 0), 0) := rfl
theorem s314_495 {c : Nat → List AV → SS → Option Out} {l1 l2 l3 l4 l5 l6 l7 : Option AV} {o : OId} {L2 : List (Nat × AV)} {St : List AV} {S : SS} : ev c 314 495 [some (aR o), l1, l2, l3, l4, l5, l6, l7] L2 St S = ev c 314 496 [some (aR o), l1, l2, l3, l4, l5, l6, l7] L2 (aR o :: St) S := ev_go i314_495 rfl
theorem i314_496 : insAt 314 496 = some (.iload 5, 2, (0, 0, 0, 0), 0) := rfl
theorem s314_496 {c : Nat → List AV → SS → Option Out} {l0 l1 l2 l3 l4 l6 l7 : Option AV} {x : Int32} {L2 : List (Nat × AV)} {St : List AV} {S : SS} : ev c 314 496 [l0, l1, l2, l3, l4, some (aI x), l6, l7] L2 St S = ev c 314 498 [l0, l1, l2, l3, l4, some (aI x), l6, l7] L2 (aI x :: St) S := ev_go i314_496 rfl
theorem i314_498 : insAt 314 498 = some (.iconst 2, 1, (0, 0, 0, 0), 0) := rfl
theorem s314_498 {c : Nat → List AV → SS → Option Out} {l0 l1 l2 l3 l4 l5 l6 l7 : Option AV} {L2 : List (Nat × AV)} {St : List AV} {S : SS} : ev c 314 498 [l0, l1, l2, l3, l4, l5, l6, l7] L2 St S = ev c 314 499 [l0, l1, l2, l3, l4, l5, l6, l7] L2 (aI 2 :: St) S := ev_go i314_498 rfl
theorem i314_499 : insAt 314 499 = some (.iadd, 1, (0, 0, 0, 0), 0) := rfl
theorem s314_499 {c : Nat → List AV → SS → Option Out} {l0 l1 l2 l3 l4 l5 l6 l7 : Option AV} {x y : Int32} {L2 : List (Nat × AV)} {St : List AV} {S : SS} : ev c 314 499 [l0, l1, l2, l3, l4, l5, l6, l7] L2 (aI y :: aI x :: St) S = ev c 314 500 [l0, l1, l2, l3, l4, l5, l6, l7] L2 (aI (x + y) :: St) S := ev_go i314_499 rfl
theorem i314_500 : insAt 314 500 = some (.iaload, 1, (0, 0, 0, 0), 0) := rfl
theorem s314_500 {c : Nat → List AV → SS → Option Out} {l0 l1 l2 l3 l4 l5 l6 l7 : Option AV} {i : Int32} {o : OId} {L2 : List (Nat × AV)} {St : List AV} {S : SS} : ev c 314 500 [l0, l1, l2, l3, l4, l5, l6, l7] L2 (aI i :: aR o :: St) S = kI o i (ev c 314 501 [l0, l1, l2, l3, l4, l5, l6, l7] L2 (aI (agI S o i.toNatClampNeg) :: St) S) := ev_iaload i314_500
theorem i314_501 : insAt 314 501 = some (.aload_n 0, 1, (0, 0, 0, 0), 0) := rfl
theorem s314_501 {c : Nat → List AV → SS → Option Out} {l1 l2 l3 l4 l5 l6 l7 : Option AV} {o : OId} {L2 : List (Nat × AV)} {St : List AV} {S : SS} : ev c 314 501 [some (aR o), l1, l2, l3, l4, l5, l6, l7] L2 St S = ev c 314 502 [some (aR o), l1, l2, l3, l4, l5, l6, l7] L2 (aR o :: St) S := ev_go i314_501 rfl
theorem i314_502 : insAt 314 502 = some (.iload 5, 2, (0, 0, 0, 0), 0) := rfl
theorem s314_502 {c : Nat → List AV → SS → Option Out} {l0 l1 l2 l3 l4 l6 l7 : Option AV} {x : Int32} {L2 : List (Nat × AV)} {St : List AV} {S : SS} : ev c 314 502 [l0, l1, l2, l3, l4, some (aI x), l6, l7] L2 St S = ev c 314 504 [l0, l1, l2, l3, l4, some (aI x), l6, l7] L2 (aI x :: St) S := ev_go i314_502 rfl
theorem i314_504 : insAt 314 504 = some (.iconst 3, 1, (0, 0, 0, 0), 0) := rfl
theorem s314_504 {c : Nat → List AV → SS → Option Out} {l0 l1 l2 l3 l4 l5 l6 l7 : Option AV} {L2 : List (Nat × AV)} {St : List AV} {S : SS} : ev c 314 504 [l0, l1, l2, l3, l4, l5, l6, l7] L2 St S = ev c 314 505 [l0, l1, l2, l3, l4, l5, l6, l7] L2 (aI 3 :: St) S := ev_go i314_504 rfl
theorem i314_505 : insAt 314 505 = some (.iadd, 1, (0, 0, 0, 0), 0) := rfl
theorem s314_505 {c : Nat → List AV → SS → Option Out} {l0 l1 l2 l3 l4 l5 l6 l7 : Option AV} {x y : Int32} {L2 : List (Nat × AV)} {St : List AV} {S : SS} : ev c 314 505 [l0, l1, l2, l3, l4, l5, l6, l7] L2 (aI y :: aI x :: St) S = ev c 314 506 [l0, l1, l2, l3, l4, l5, l6, l7] L2 (aI (x + y) :: St) S := ev_go i314_505 rfl
theorem i314_506 : insAt 314 506 = some (.iaload, 1, (0, 0, 0, 0), 0) := rfl
theorem s314_506 {c : Nat → List AV → SS → Option Out} {l0 l1 l2 l3 l4 l5 l6 l7 : Option AV} {i : Int32} {o : OId} {L2 : List (Nat × AV)} {St : List AV} {S : SS} : ev c 314 506 [l0, l1, l2, l3, l4, l5, l6, l7] L2 (aI i :: aR o :: St) S = kI o i (ev c 314 507 [l0, l1, l2, l3, l4, l5, l6, l7] L2 (aI (agI S o i.toNatClampNeg) :: St) S) := ev_iaload i314_506
theorem i314_507 : insAt 314 507 = some (.invokevirtual 169, 3, (253, 3, 2, 12), 0) := rfl
theorem s314_507 {c : Nat → List AV → SS → Option Out} {l0 l1 l2 l3 l4 l5 l6 l7 : Option AV} {a0 : Int32} {a1 : Int32} {a2 : Int32} {j t : Nat} {L2 : List (Nat × AV)} {S : SS} : ev c 314 507 [l0, l1, l2, l3, l4, l5, l6, l7] L2 [aI a2, aI a1, aI a0, aR (12, j, t)] S = ck (c 253 [aR (12, j, t), aI a0, aI a1, aI a2] S) (fun v S' => ev c 314 510 [l0, l1, l2, l3, l4, l5, l6, l7] L2 (v.toList ++ []) S') := ev_call i314_507 rfl
theorem i314_510 : insAt 314 510 = some (.istore 7, 2, (0, 0, 0, 0), 0) := rfl
theorem s314_510 {c : Nat → List AV → SS → Option Out} {l0 l1 l2 l3 l4 l5 l6 l7 : Option AV} {x : Int32} {L2 : List (Nat × AV)} {St : List AV} {S : SS} : ev c 314 510 [l0, l1, l2, l3, l4, l5, l6, l7] L2 (aI x :: St) S = ev c 314 512 [l0, l1, l2, l3, l4, l5, l6, some (aI x)] (kil L2 7) St S := ev_go i314_510 rfl
theorem i314_512 : insAt 314 512 = some (.aload_n 2, 1, (0, 0, 0, 0), 0) := rfl
theorem s314_512 {c : Nat → List AV → SS → Option Out} {l0 l1 l3 l4 l5 l6 l7 : Option AV} {o : OId} {L2 : List (Nat × AV)} {St : List AV} {S : SS} : ev c 314 512 [l0, l1, some (aR o), l3, l4, l5, l6, l7] L2 St S = ev c 314 513 [l0, l1, some (aR o), l3, l4, l5, l6, l7] L2 (aR o :: St) S := ev_go i314_512 rfl
theorem i314_513 : insAt 314 513 = some (.invokevirtual 149, 3, (218, 0, 2, 12), 0) := rfl
theorem s314_513 {c : Nat → List AV → SS → Option Out} {l0 l1 l2 l3 l4 l5 l6 l7 : Option AV} {j t : Nat} {L2 : List (Nat × AV)} {S : SS} : ev c 314 513 [l0, l1, l2, l3, l4, l5, l6, l7] L2 [aR (12, j, t)] S = ck (c 218 [aR (12, j, t)] S) (fun v S' => ev c 314 516 [l0, l1, l2, l3, l4, l5, l6, l7] L2 (v.toList ++ []) S') := ev_call i314_513 rfl
theorem i314_516 : insAt 314 516 = some (.iload 6, 2, (0, 0, 0, 0), 0) := rfl
theorem s314_516 {c : Nat → List AV → SS → Option Out} {l0 l1 l2 l3 l4 l5 l7 : Option AV} {x : Int32} {L2 : List (Nat × AV)} {St : List AV} {S : SS} : ev c 314 516 [l0, l1, l2, l3, l4, l5, some (aI x), l7] L2 St S = ev c 314 518 [l0, l1, l2, l3, l4, l5, some (aI x), l7] L2 (aI x :: St) S := ev_go i314_516 rfl
theorem i314_518 : insAt 314 518 = some (.if_icmp .eq 5, 3, (0, 0, 0, 0), 0) := rfl
theorem s314_518 {c : Nat → List AV → SS → Option Out} {l0 l1 l2 l3 l4 l5 l6 l7 : Option AV} {x y : Int32} {L2 : List (Nat × AV)} {St : List AV} {S : SS} : ev c 314 518 [l0, l1, l2, l3, l4, l5, l6, l7] L2 (aI y :: aI x :: St) S = if x = y then ev c 314 523 [l0, l1, l2, l3, l4, l5, l6, l7] L2 St S else ev c 314 521 [l0, l1, l2, l3, l4, l5, l6, l7] L2 St S := ev_br i314_518 rfl
theorem i314_521 : insAt 314 521 = some (.iconst 0, 1, (0, 0, 0, 0), 0) := rfl
theorem s314_521 {c : Nat → List AV → SS → Option Out} {l0 l1 l2 l3 l4 l5 l6 l7 : Option AV} {L2 : List (Nat × AV)} {St : List AV} {S : SS} : ev c 314 521 [l0, l1, l2, l3, l4, l5, l6, l7] L2 St S = ev c 314 522 [l0, l1, l2, l3, l4, l5, l6, l7] L2 (aI 0 :: St) S := ev_go i314_521 rfl
theorem i314_522 : insAt 314 522 = some (.ireturn, 1, (0, 0, 0, 0), 0) := rfl
theorem s314_522 {c : Nat → List AV → SS → Option Out} {l0 l1 l2 l3 l4 l5 l6 l7 : Option AV} {x : Int32} {L2 : List (Nat × AV)} {St : List AV} {S : SS} : ev c 314 522 [l0, l1, l2, l3, l4, l5, l6, l7] L2 [aI x] S = if x = 0 ∨ x = 1 then some (.inl (some (aI x)), S) else none := ev_rt i314_522 rfl
theorem i314_523 : insAt 314 523 = some (.iload 6, 2, (0, 0, 0, 0), 0) := rfl
theorem s314_523 {c : Nat → List AV → SS → Option Out} {l0 l1 l2 l3 l4 l5 l7 : Option AV} {x : Int32} {L2 : List (Nat × AV)} {St : List AV} {S : SS} : ev c 314 523 [l0, l1, l2, l3, l4, l5, some (aI x), l7] L2 St S = ev c 314 525 [l0, l1, l2, l3, l4, l5, some (aI x), l7] L2 (aI x :: St) S := ev_go i314_523 rfl
theorem i314_525 : insAt 314 525 = some (.ifCond .ne 15, 3, (0, 0, 0, 0), 0) := rfl
theorem s314_525 {c : Nat → List AV → SS → Option Out} {l0 l1 l2 l3 l4 l5 l6 l7 : Option AV} {x : Int32} {L2 : List (Nat × AV)} {St : List AV} {S : SS} : ev c 314 525 [l0, l1, l2, l3, l4, l5, l6, l7] L2 (aI x :: St) S = if x = 0 then ev c 314 528 [l0, l1, l2, l3, l4, l5, l6, l7] L2 St S else ev c 314 540 [l0, l1, l2, l3, l4, l5, l6, l7] L2 St S := (ev_br i314_525 rfl).trans (ite_not _ _ _)
theorem i314_528 : insAt 314 528 = some (.aload_n 3, 1, (0, 0, 0, 0), 0) := rfl
theorem s314_528 {c : Nat → List AV → SS → Option Out} {l0 l1 l2 l4 l5 l6 l7 : Option AV} {o : OId} {L2 : List (Nat × AV)} {St : List AV} {S : SS} : ev c 314 528 [l0, l1, l2, some (aR o), l4, l5, l6, l7] L2 St S = ev c 314 529 [l0, l1, l2, some (aR o), l4, l5, l6, l7] L2 (aR o :: St) S := ev_go i314_528 rfl
theorem i314_529 : insAt 314 529 = some (.iconst 0, 1, (0, 0, 0, 0), 0) := rfl
theorem s314_529 {c : Nat → List AV → SS → Option Out} {l0 l1 l2 l3 l4 l5 l6 l7 : Option AV} {L2 : List (Nat × AV)} {St : List AV} {S : SS} : ev c 314 529 [l0, l1, l2, l3, l4, l5, l6, l7] L2 St S = ev c 314 530 [l0, l1, l2, l3, l4, l5, l6, l7] L2 (aI 0 :: St) S := ev_go i314_529 rfl
theorem i314_530 : insAt 314 530 = some (.laload, 1, (0, 0, 0, 0), 0) := rfl
theorem s314_530 {c : Nat → List AV → SS → Option Out} {l0 l1 l2 l3 l4 l5 l6 l7 : Option AV} {i : Int32} {o : OId} {L2 : List (Nat × AV)} {St : List AV} {S : SS} : ev c 314 530 [l0, l1, l2, l3, l4, l5, l6, l7] L2 (aI i :: aR o :: St) S = kJ o i (ev c 314 531 [l0, l1, l2, l3, l4, l5, l6, l7] L2 (aL (toL (S.2.1 o i.toNatClampNeg)) :: St) S) := ev_laload i314_530
theorem i314_531 : insAt 314 531 = some (.iload 7, 2, (0, 0, 0, 0), 0) := rfl
theorem s314_531 {c : Nat → List AV → SS → Option Out} {l0 l1 l2 l3 l4 l5 l6 : Option AV} {x : Int32} {L2 : List (Nat × AV)} {St : List AV} {S : SS} : ev c 314 531 [l0, l1, l2, l3, l4, l5, l6, some (aI x)] L2 St S = ev c 314 533 [l0, l1, l2, l3, l4, l5, l6, some (aI x)] L2 (aI x :: St) S := ev_go i314_531 rfl
theorem i314_533 : insAt 314 533 = some (.i2l, 1, (0, 0, 0, 0), 0) := rfl
theorem s314_533 {c : Nat → List AV → SS → Option Out} {l0 l1 l2 l3 l4 l5 l6 l7 : Option AV} {x : Int32} {L2 : List (Nat × AV)} {St : List AV} {S : SS} : ev c 314 533 [l0, l1, l2, l3, l4, l5, l6, l7] L2 (aI x :: St) S = ev c 314 534 [l0, l1, l2, l3, l4, l5, l6, l7] L2 (aL x.toInt64 :: St) S := ev_go i314_533 rfl
theorem i314_534 : insAt 314 534 = some (.lcmp, 1, (0, 0, 0, 0), 0) := rfl
theorem s314_534 {c : Nat → List AV → SS → Option Out} {l0 l1 l2 l3 l4 l5 l6 l7 : Option AV} {x y : Int64} {L2 : List (Nat × AV)} {St : List AV} {S : SS} : ev c 314 534 [l0, l1, l2, l3, l4, l5, l6, l7] L2 (aL y :: aL x :: St) S = ev c 314 535 [l0, l1, l2, l3, l4, l5, l6, l7] L2 (aI (if x < y then -1 else if x = y then 0 else 1) :: St) S := ev_go i314_534 rfl
theorem i314_535 : insAt 314 535 = some (.ifCond .eq 5, 3, (0, 0, 0, 0), 0) := rfl
theorem s314_535 {c : Nat → List AV → SS → Option Out} {l0 l1 l2 l3 l4 l5 l6 l7 : Option AV} {x : Int32} {L2 : List (Nat × AV)} {St : List AV} {S : SS} : ev c 314 535 [l0, l1, l2, l3, l4, l5, l6, l7] L2 (aI x :: St) S = if x = 0 then ev c 314 540 [l0, l1, l2, l3, l4, l5, l6, l7] L2 St S else ev c 314 538 [l0, l1, l2, l3, l4, l5, l6, l7] L2 St S := ev_br i314_535 rfl
theorem i314_538 : insAt 314 538 = some (.iconst 0, 1, (0, 0, 0, 0), 0) := rfl
theorem s314_538 {c : Nat → List AV → SS → Option Out} {l0 l1 l2 l3 l4 l5 l6 l7 : Option AV} {L2 : List (Nat × AV)} {St : List AV} {S : SS} : ev c 314 538 [l0, l1, l2, l3, l4, l5, l6, l7] L2 St S = ev c 314 539 [l0, l1, l2, l3, l4, l5, l6, l7] L2 (aI 0 :: St) S := ev_go i314_538 rfl
theorem i314_539 : insAt 314 539 = some (.ireturn, 1, (0, 0, 0, 0), 0) := rfl
theorem s314_539 {c : Nat → List AV → SS → Option Out} {l0 l1 l2 l3 l4 l5 l6 l7 : Option AV} {x : Int32} {L2 : List (Nat × AV)} {St : List AV} {S : SS} : ev c 314 539 [l0, l1, l2, l3, l4, l5, l6, l7] L2 [aI x] S = if x = 0 ∨ x = 1 then some (.inl (some (aI x)), S) else none := ev_rt i314_539 rfl
theorem i314_540 : insAt 314 540 = some (.goto 2259, 3, (0, 0, 0, 0), 0) := rfl
theorem s314_540 {c : Nat → List AV → SS → Option Out} {l0 l1 l2 l3 l4 l5 l6 l7 : Option AV} {L2 : List (Nat × AV)} {St : List AV} {S : SS} : ev c 314 540 [l0, l1, l2, l3, l4, l5, l6, l7] L2 St S = ev c 314 2799 [l0, l1, l2, l3, l4, l5, l6, l7] L2 St S := ev_go i314_540 rfl
theorem i314_543 : insAt 314 543 = some (.aload_n 1, 1, (0, 0, 0, 0), 0) := rfl
theorem s314_543 {c : Nat → List AV → SS → Option Out} {l0 l2 l3 l4 l5 l6 l7 : Option AV} {o : OId} {L2 : List (Nat × AV)} {St : List AV} {S : SS} : ev c 314 543 [l0, some (aR o), l2, l3, l4, l5, l6, l7] L2 St S = ev c 314 544 [l0, some (aR o), l2, l3, l4, l5, l6, l7] L2 (aR o :: St) S := ev_go i314_543 rfl
theorem i314_544 : insAt 314 544 = some (.aload_n 0, 1, (0, 0, 0, 0), 0) := rfl
theorem s314_544 {c : Nat → List AV → SS → Option Out} {l1 l2 l3 l4 l5 l6 l7 : Option AV} {o : OId} {L2 : List (Nat × AV)} {St : List AV} {S : SS} : ev c 314 544 [some (aR o), l1, l2, l3, l4, l5, l6, l7] L2 St S = ev c 314 545 [some (aR o), l1, l2, l3, l4, l5, l6, l7] L2 (aR o :: St) S := ev_go i314_544 rfl
theorem i314_545 : insAt 314 545 = some (.iload 5, 2, (0, 0, 0, 0), 0) := rfl
theorem s314_545 {c : Nat → List AV → SS → Option Out} {l0 l1 l2 l3 l4 l6 l7 : Option AV} {x : Int32} {L2 : List (Nat × AV)} {St : List AV} {S : SS} : ev c 314 545 [l0, l1, l2, l3, l4, some (aI x), l6, l7] L2 St S = ev c 314 547 [l0, l1, l2, l3, l4, some (aI x), l6, l7] L2 (aI x :: St) S := ev_go i314_545 rfl
theorem i314_547 : insAt 314 547 = some (.iconst 1, 1, (0, 0, 0, 0), 0) := rfl
theorem s314_547 {c : Nat → List AV → SS → Option Out} {l0 l1 l2 l3 l4 l5 l6 l7 : Option AV} {L2 : List (Nat × AV)} {St : List AV} {S : SS} : ev c 314 547 [l0, l1, l2, l3, l4, l5, l6, l7] L2 St S = ev c 314 548 [l0, l1, l2, l3, l4, l5, l6, l7] L2 (aI 1 :: St) S := ev_go i314_547 rfl
theorem i314_548 : insAt 314 548 = some (.iadd, 1, (0, 0, 0, 0), 0) := rfl
theorem s314_548 {c : Nat → List AV → SS → Option Out} {l0 l1 l2 l3 l4 l5 l6 l7 : Option AV} {x y : Int32} {L2 : List (Nat × AV)} {St : List AV} {S : SS} : ev c 314 548 [l0, l1, l2, l3, l4, l5, l6, l7] L2 (aI y :: aI x :: St) S = ev c 314 549 [l0, l1, l2, l3, l4, l5, l6, l7] L2 (aI (x + y) :: St) S := ev_go i314_548 rfl
theorem i314_549 : insAt 314 549 = some (.iaload, 1, (0, 0, 0, 0), 0) := rfl
theorem s314_549 {c : Nat → List AV → SS → Option Out} {l0 l1 l2 l3 l4 l5 l6 l7 : Option AV} {i : Int32} {o : OId} {L2 : List (Nat × AV)} {St : List AV} {S : SS} : ev c 314 549 [l0, l1, l2, l3, l4, l5, l6, l7] L2 (aI i :: aR o :: St) S = kI o i (ev c 314 550 [l0, l1, l2, l3, l4, l5, l6, l7] L2 (aI (agI S o i.toNatClampNeg) :: St) S) := ev_iaload i314_549
theorem i314_550 : insAt 314 550 = some (.aload_n 0, 1, (0, 0, 0, 0), 0) := rfl
theorem s314_550 {c : Nat → List AV → SS → Option Out} {l1 l2 l3 l4 l5 l6 l7 : Option AV} {o : OId} {L2 : List (Nat × AV)} {St : List AV} {S : SS} : ev c 314 550 [some (aR o), l1, l2, l3, l4, l5, l6, l7] L2 St S = ev c 314 551 [some (aR o), l1, l2, l3, l4, l5, l6, l7] L2 (aR o :: St) S := ev_go i314_550 rfl
theorem i314_551 : insAt 314 551 = some (.iload 5, 2, (0, 0, 0, 0), 0) := rfl
theorem s314_551 {c : Nat → List AV → SS → Option Out} {l0 l1 l2 l3 l4 l6 l7 : Option AV} {x : Int32} {L2 : List (Nat × AV)} {St : List AV} {S : SS} : ev c 314 551 [l0, l1, l2, l3, l4, some (aI x), l6, l7] L2 St S = ev c 314 553 [l0, l1, l2, l3, l4, some (aI x), l6, l7] L2 (aI x :: St) S := ev_go i314_551 rfl
theorem i314_553 : insAt 314 553 = some (.iconst 2, 1, (0, 0, 0, 0), 0) := rfl
theorem s314_553 {c : Nat → List AV → SS → Option Out} {l0 l1 l2 l3 l4 l5 l6 l7 : Option AV} {L2 : List (Nat × AV)} {St : List AV} {S : SS} : ev c 314 553 [l0, l1, l2, l3, l4, l5, l6, l7] L2 St S = ev c 314 554 [l0, l1, l2, l3, l4, l5, l6, l7] L2 (aI 2 :: St) S := ev_go i314_553 rfl
theorem i314_554 : insAt 314 554 = some (.iadd, 1, (0, 0, 0, 0), 0) := rfl
theorem s314_554 {c : Nat → List AV → SS → Option Out} {l0 l1 l2 l3 l4 l5 l6 l7 : Option AV} {x y : Int32} {L2 : List (Nat × AV)} {St : List AV} {S : SS} : ev c 314 554 [l0, l1, l2, l3, l4, l5, l6, l7] L2 (aI y :: aI x :: St) S = ev c 314 555 [l0, l1, l2, l3, l4, l5, l6, l7] L2 (aI (x + y) :: St) S := ev_go i314_554 rfl
theorem i314_555 : insAt 314 555 = some (.iaload, 1, (0, 0, 0, 0), 0) := rfl
theorem s314_555 {c : Nat → List AV → SS → Option Out} {l0 l1 l2 l3 l4 l5 l6 l7 : Option AV} {i : Int32} {o : OId} {L2 : List (Nat × AV)} {St : List AV} {S : SS} : ev c 314 555 [l0, l1, l2, l3, l4, l5, l6, l7] L2 (aI i :: aR o :: St) S = kI o i (ev c 314 556 [l0, l1, l2, l3, l4, l5, l6, l7] L2 (aI (agI S o i.toNatClampNeg) :: St) S) := ev_iaload i314_555
theorem i314_556 : insAt 314 556 = some (.aload_n 3, 1, (0, 0, 0, 0), 0) := rfl
theorem s314_556 {c : Nat → List AV → SS → Option Out} {l0 l1 l2 l4 l5 l6 l7 : Option AV} {o : OId} {L2 : List (Nat × AV)} {St : List AV} {S : SS} : ev c 314 556 [l0, l1, l2, some (aR o), l4, l5, l6, l7] L2 St S = ev c 314 557 [l0, l1, l2, some (aR o), l4, l5, l6, l7] L2 (aR o :: St) S := ev_go i314_556 rfl
theorem i314_557 : insAt 314 557 = some (.invokestatic 170, 3, (91, 4, 0, 0), 0) := rfl
theorem s314_557 {c : Nat → List AV → SS → Option Out} {l0 l1 l2 l3 l4 l5 l6 l7 : Option AV} {a0 : OId} {a1 : Int32} {a2 : Int32} {a3 : OId} {L2 : List (Nat × AV)} {S : SS} : ev c 314 557 [l0, l1, l2, l3, l4, l5, l6, l7] L2 [aR a3, aI a2, aI a1, aR a0] S = ck (c 91 [aR a0, aI a1, aI a2, aR a3] S) (fun v S' => ev c 314 560 [l0, l1, l2, l3, l4, l5, l6, l7] L2 (v.toList ++ []) S') := ev_call i314_557 rfl
theorem i314_560 : insAt 314 560 = some (.istore 6, 2, (0, 0, 0, 0), 0) := rfl
theorem s314_560 {c : Nat → List AV → SS → Option Out} {l0 l1 l2 l3 l4 l5 l6 l7 : Option AV} {x : Int32} {L2 : List (Nat × AV)} {St : List AV} {S : SS} : ev c 314 560 [l0, l1, l2, l3, l4, l5, l6, l7] L2 (aI x :: St) S = ev c 314 562 [l0, l1, l2, l3, l4, l5, some (aI x), l7] (kil L2 6) St S := ev_go i314_560 rfl
theorem i314_562 : insAt 314 562 = some (.aload_n 2, 1, (0, 0, 0, 0), 0) := rfl
theorem s314_562 {c : Nat → List AV → SS → Option Out} {l0 l1 l3 l4 l5 l6 l7 : Option AV} {o : OId} {L2 : List (Nat × AV)} {St : List AV} {S : SS} : ev c 314 562 [l0, l1, some (aR o), l3, l4, l5, l6, l7] L2 St S = ev c 314 563 [l0, l1, some (aR o), l3, l4, l5, l6, l7] L2 (aR o :: St) S := ev_go i314_562 rfl
theorem i314_563 : insAt 314 563 = some (.aload_n 0, 1, (0, 0, 0, 0), 0) := rfl
theorem s314_563 {c : Nat → List AV → SS → Option Out} {l1 l2 l3 l4 l5 l6 l7 : Option AV} {o : OId} {L2 : List (Nat × AV)} {St : List AV} {S : SS} : ev c 314 563 [some (aR o), l1, l2, l3, l4, l5, l6, l7] L2 St S = ev c 314 564 [some (aR o), l1, l2, l3, l4, l5, l6, l7] L2 (aR o :: St) S := ev_go i314_563 rfl
theorem i314_564 : insAt 314 564 = some (.iload 5, 2, (0, 0, 0, 0), 0) := rfl
theorem s314_564 {c : Nat → List AV → SS → Option Out} {l0 l1 l2 l3 l4 l6 l7 : Option AV} {x : Int32} {L2 : List (Nat × AV)} {St : List AV} {S : SS} : ev c 314 564 [l0, l1, l2, l3, l4, some (aI x), l6, l7] L2 St S = ev c 314 566 [l0, l1, l2, l3, l4, some (aI x), l6, l7] L2 (aI x :: St) S := ev_go i314_564 rfl
theorem i314_566 : insAt 314 566 = some (.iconst 1, 1, (0, 0, 0, 0), 0) := rfl
theorem s314_566 {c : Nat → List AV → SS → Option Out} {l0 l1 l2 l3 l4 l5 l6 l7 : Option AV} {L2 : List (Nat × AV)} {St : List AV} {S : SS} : ev c 314 566 [l0, l1, l2, l3, l4, l5, l6, l7] L2 St S = ev c 314 567 [l0, l1, l2, l3, l4, l5, l6, l7] L2 (aI 1 :: St) S := ev_go i314_566 rfl
theorem i314_567 : insAt 314 567 = some (.iadd, 1, (0, 0, 0, 0), 0) := rfl
theorem s314_567 {c : Nat → List AV → SS → Option Out} {l0 l1 l2 l3 l4 l5 l6 l7 : Option AV} {x y : Int32} {L2 : List (Nat × AV)} {St : List AV} {S : SS} : ev c 314 567 [l0, l1, l2, l3, l4, l5, l6, l7] L2 (aI y :: aI x :: St) S = ev c 314 568 [l0, l1, l2, l3, l4, l5, l6, l7] L2 (aI (x + y) :: St) S := ev_go i314_567 rfl
theorem i314_568 : insAt 314 568 = some (.iaload, 1, (0, 0, 0, 0), 0) := rfl
theorem s314_568 {c : Nat → List AV → SS → Option Out} {l0 l1 l2 l3 l4 l5 l6 l7 : Option AV} {i : Int32} {o : OId} {L2 : List (Nat × AV)} {St : List AV} {S : SS} : ev c 314 568 [l0, l1, l2, l3, l4, l5, l6, l7] L2 (aI i :: aR o :: St) S = kI o i (ev c 314 569 [l0, l1, l2, l3, l4, l5, l6, l7] L2 (aI (agI S o i.toNatClampNeg) :: St) S) := ev_iaload i314_568
theorem i314_569 : insAt 314 569 = some (.aload_n 0, 1, (0, 0, 0, 0), 0) := rfl
theorem s314_569 {c : Nat → List AV → SS → Option Out} {l1 l2 l3 l4 l5 l6 l7 : Option AV} {o : OId} {L2 : List (Nat × AV)} {St : List AV} {S : SS} : ev c 314 569 [some (aR o), l1, l2, l3, l4, l5, l6, l7] L2 St S = ev c 314 570 [some (aR o), l1, l2, l3, l4, l5, l6, l7] L2 (aR o :: St) S := ev_go i314_569 rfl
theorem i314_570 : insAt 314 570 = some (.iload 5, 2, (0, 0, 0, 0), 0) := rfl
theorem s314_570 {c : Nat → List AV → SS → Option Out} {l0 l1 l2 l3 l4 l6 l7 : Option AV} {x : Int32} {L2 : List (Nat × AV)} {St : List AV} {S : SS} : ev c 314 570 [l0, l1, l2, l3, l4, some (aI x), l6, l7] L2 St S = ev c 314 572 [l0, l1, l2, l3, l4, some (aI x), l6, l7] L2 (aI x :: St) S := ev_go i314_570 rfl
theorem i314_572 : insAt 314 572 = some (.iconst 2, 1, (0, 0, 0, 0), 0) := rfl
theorem s314_572 {c : Nat → List AV → SS → Option Out} {l0 l1 l2 l3 l4 l5 l6 l7 : Option AV} {L2 : List (Nat × AV)} {St : List AV} {S : SS} : ev c 314 572 [l0, l1, l2, l3, l4, l5, l6, l7] L2 St S = ev c 314 573 [l0, l1, l2, l3, l4, l5, l6, l7] L2 (aI 2 :: St) S := ev_go i314_572 rfl
theorem i314_573 : insAt 314 573 = some (.iadd, 1, (0, 0, 0, 0), 0) := rfl
theorem s314_573 {c : Nat → List AV → SS → Option Out} {l0 l1 l2 l3 l4 l5 l6 l7 : Option AV} {x y : Int32} {L2 : List (Nat × AV)} {St : List AV} {S : SS} : ev c 314 573 [l0, l1, l2, l3, l4, l5, l6, l7] L2 (aI y :: aI x :: St) S = ev c 314 574 [l0, l1, l2, l3, l4, l5, l6, l7] L2 (aI (x + y) :: St) S := ev_go i314_573 rfl
theorem i314_574 : insAt 314 574 = some (.iaload, 1, (0, 0, 0, 0), 0) := rfl
theorem s314_574 {c : Nat → List AV → SS → Option Out} {l0 l1 l2 l3 l4 l5 l6 l7 : Option AV} {i : Int32} {o : OId} {L2 : List (Nat × AV)} {St : List AV} {S : SS} : ev c 314 574 [l0, l1, l2, l3, l4, l5, l6, l7] L2 (aI i :: aR o :: St) S = kI o i (ev c 314 575 [l0, l1, l2, l3, l4, l5, l6, l7] L2 (aI (agI S o i.toNatClampNeg) :: St) S) := ev_iaload i314_574
theorem i314_575 : insAt 314 575 = some (.invokevirtual 173, 3, (255, 2, 2, 12), 0) := rfl
theorem s314_575 {c : Nat → List AV → SS → Option Out} {l0 l1 l2 l3 l4 l5 l6 l7 : Option AV} {a0 : Int32} {a1 : Int32} {j t : Nat} {L2 : List (Nat × AV)} {S : SS} : ev c 314 575 [l0, l1, l2, l3, l4, l5, l6, l7] L2 [aI a1, aI a0, aR (12, j, t)] S = ck (c 255 [aR (12, j, t), aI a0, aI a1] S) (fun v S' => ev c 314 578 [l0, l1, l2, l3, l4, l5, l6, l7] L2 (v.toList ++ []) S') := ev_call i314_575 rfl
theorem i314_578 : insAt 314 578 = some (.istore 7, 2, (0, 0, 0, 0), 0) := rfl
theorem s314_578 {c : Nat → List AV → SS → Option Out} {l0 l1 l2 l3 l4 l5 l6 l7 : Option AV} {x : Int32} {L2 : List (Nat × AV)} {St : List AV} {S : SS} : ev c 314 578 [l0, l1, l2, l3, l4, l5, l6, l7] L2 (aI x :: St) S = ev c 314 580 [l0, l1, l2, l3, l4, l5, l6, some (aI x)] (kil L2 7) St S := ev_go i314_578 rfl
theorem i314_580 : insAt 314 580 = some (.aload_n 2, 1, (0, 0, 0, 0), 0) := rfl
theorem s314_580 {c : Nat → List AV → SS → Option Out} {l0 l1 l3 l4 l5 l6 l7 : Option AV} {o : OId} {L2 : List (Nat × AV)} {St : List AV} {S : SS} : ev c 314 580 [l0, l1, some (aR o), l3, l4, l5, l6, l7] L2 St S = ev c 314 581 [l0, l1, some (aR o), l3, l4, l5, l6, l7] L2 (aR o :: St) S := ev_go i314_580 rfl
theorem i314_581 : insAt 314 581 = some (.invokevirtual 149, 3, (218, 0, 2, 12), 0) := rfl
theorem s314_581 {c : Nat → List AV → SS → Option Out} {l0 l1 l2 l3 l4 l5 l6 l7 : Option AV} {j t : Nat} {L2 : List (Nat × AV)} {S : SS} : ev c 314 581 [l0, l1, l2, l3, l4, l5, l6, l7] L2 [aR (12, j, t)] S = ck (c 218 [aR (12, j, t)] S) (fun v S' => ev c 314 584 [l0, l1, l2, l3, l4, l5, l6, l7] L2 (v.toList ++ []) S') := ev_call i314_581 rfl
theorem i314_584 : insAt 314 584 = some (.iload 6, 2, (0, 0, 0, 0), 0) := rfl
theorem s314_584 {c : Nat → List AV → SS → Option Out} {l0 l1 l2 l3 l4 l5 l7 : Option AV} {x : Int32} {L2 : List (Nat × AV)} {St : List AV} {S : SS} : ev c 314 584 [l0, l1, l2, l3, l4, l5, some (aI x), l7] L2 St S = ev c 314 586 [l0, l1, l2, l3, l4, l5, some (aI x), l7] L2 (aI x :: St) S := ev_go i314_584 rfl
theorem i314_586 : insAt 314 586 = some (.if_icmp .eq 5, 3, (0, 0, 0, 0), 0) := rfl
theorem s314_586 {c : Nat → List AV → SS → Option Out} {l0 l1 l2 l3 l4 l5 l6 l7 : Option AV} {x y : Int32} {L2 : List (Nat × AV)} {St : List AV} {S : SS} : ev c 314 586 [l0, l1, l2, l3, l4, l5, l6, l7] L2 (aI y :: aI x :: St) S = if x = y then ev c 314 591 [l0, l1, l2, l3, l4, l5, l6, l7] L2 St S else ev c 314 589 [l0, l1, l2, l3, l4, l5, l6, l7] L2 St S := ev_br i314_586 rfl
theorem i314_589 : insAt 314 589 = some (.iconst 0, 1, (0, 0, 0, 0), 0) := rfl
theorem s314_589 {c : Nat → List AV → SS → Option Out} {l0 l1 l2 l3 l4 l5 l6 l7 : Option AV} {L2 : List (Nat × AV)} {St : List AV} {S : SS} : ev c 314 589 [l0, l1, l2, l3, l4, l5, l6, l7] L2 St S = ev c 314 590 [l0, l1, l2, l3, l4, l5, l6, l7] L2 (aI 0 :: St) S := ev_go i314_589 rfl
theorem i314_590 : insAt 314 590 = some (.ireturn, 1, (0, 0, 0, 0), 0) := rfl
theorem s314_590 {c : Nat → List AV → SS → Option Out} {l0 l1 l2 l3 l4 l5 l6 l7 : Option AV} {x : Int32} {L2 : List (Nat × AV)} {St : List AV} {S : SS} : ev c 314 590 [l0, l1, l2, l3, l4, l5, l6, l7] L2 [aI x] S = if x = 0 ∨ x = 1 then some (.inl (some (aI x)), S) else none := ev_rt i314_590 rfl
theorem i314_591 : insAt 314 591 = some (.iload 6, 2, (0, 0, 0, 0), 0) := rfl
theorem s314_591 {c : Nat → List AV → SS → Option Out} {l0 l1 l2 l3 l4 l5 l7 : Option AV} {x : Int32} {L2 : List (Nat × AV)} {St : List AV} {S : SS} : ev c 314 591 [l0, l1, l2, l3, l4, l5, some (aI x), l7] L2 St S = ev c 314 593 [l0, l1, l2, l3, l4, l5, some (aI x), l7] L2 (aI x :: St) S := ev_go i314_591 rfl
theorem i314_593 : insAt 314 593 = some (.ifCond .ne 15, 3, (0, 0, 0, 0), 0) := rfl
theorem s314_593 {c : Nat → List AV → SS → Option Out} {l0 l1 l2 l3 l4 l5 l6 l7 : Option AV} {x : Int32} {L2 : List (Nat × AV)} {St : List AV} {S : SS} : ev c 314 593 [l0, l1, l2, l3, l4, l5, l6, l7] L2 (aI x :: St) S = if x = 0 then ev c 314 596 [l0, l1, l2, l3, l4, l5, l6, l7] L2 St S else ev c 314 608 [l0, l1, l2, l3, l4, l5, l6, l7] L2 St S := (ev_br i314_593 rfl).trans (ite_not _ _ _)
theorem i314_596 : insAt 314 596 = some (.aload_n 3, 1, (0, 0, 0, 0), 0) := rfl
theorem s314_596 {c : Nat → List AV → SS → Option Out} {l0 l1 l2 l4 l5 l6 l7 : Option AV} {o : OId} {L2 : List (Nat × AV)} {St : List AV} {S : SS} : ev c 314 596 [l0, l1, l2, some (aR o), l4, l5, l6, l7] L2 St S = ev c 314 597 [l0, l1, l2, some (aR o), l4, l5, l6, l7] L2 (aR o :: St) S := ev_go i314_596 rfl
theorem i314_597 : insAt 314 597 = some (.iconst 0, 1, (0, 0, 0, 0), 0) := rfl
theorem s314_597 {c : Nat → List AV → SS → Option Out} {l0 l1 l2 l3 l4 l5 l6 l7 : Option AV} {L2 : List (Nat × AV)} {St : List AV} {S : SS} : ev c 314 597 [l0, l1, l2, l3, l4, l5, l6, l7] L2 St S = ev c 314 598 [l0, l1, l2, l3, l4, l5, l6, l7] L2 (aI 0 :: St) S := ev_go i314_597 rfl
theorem i314_598 : insAt 314 598 = some (.laload, 1, (0, 0, 0, 0), 0) := rfl
theorem s314_598 {c : Nat → List AV → SS → Option Out} {l0 l1 l2 l3 l4 l5 l6 l7 : Option AV} {i : Int32} {o : OId} {L2 : List (Nat × AV)} {St : List AV} {S : SS} : ev c 314 598 [l0, l1, l2, l3, l4, l5, l6, l7] L2 (aI i :: aR o :: St) S = kJ o i (ev c 314 599 [l0, l1, l2, l3, l4, l5, l6, l7] L2 (aL (toL (S.2.1 o i.toNatClampNeg)) :: St) S) := ev_laload i314_598
theorem i314_599 : insAt 314 599 = some (.iload 7, 2, (0, 0, 0, 0), 0) := rfl
theorem s314_599 {c : Nat → List AV → SS → Option Out} {l0 l1 l2 l3 l4 l5 l6 : Option AV} {x : Int32} {L2 : List (Nat × AV)} {St : List AV} {S : SS} : ev c 314 599 [l0, l1, l2, l3, l4, l5, l6, some (aI x)] L2 St S = ev c 314 601 [l0, l1, l2, l3, l4, l5, l6, some (aI x)] L2 (aI x :: St) S := ev_go i314_599 rfl
theorem i314_601 : insAt 314 601 = some (.i2l, 1, (0, 0, 0, 0), 0) := rfl
theorem s314_601 {c : Nat → List AV → SS → Option Out} {l0 l1 l2 l3 l4 l5 l6 l7 : Option AV} {x : Int32} {L2 : List (Nat × AV)} {St : List AV} {S : SS} : ev c 314 601 [l0, l1, l2, l3, l4, l5, l6, l7] L2 (aI x :: St) S = ev c 314 602 [l0, l1, l2, l3, l4, l5, l6, l7] L2 (aL x.toInt64 :: St) S := ev_go i314_601 rfl
theorem i314_602 : insAt 314 602 = some (.lcmp, 1, (0, 0, 0, 0), 0) := rfl
theorem s314_602 {c : Nat → List AV → SS → Option Out} {l0 l1 l2 l3 l4 l5 l6 l7 : Option AV} {x y : Int64} {L2 : List (Nat × AV)} {St : List AV} {S : SS} : ev c 314 602 [l0, l1, l2, l3, l4, l5, l6, l7] L2 (aL y :: aL x :: St) S = ev c 314 603 [l0, l1, l2, l3, l4, l5, l6, l7] L2 (aI (if x < y then -1 else if x = y then 0 else 1) :: St) S := ev_go i314_602 rfl
theorem i314_603 : insAt 314 603 = some (.ifCond .eq 5, 3, (0, 0, 0, 0), 0) := rfl
theorem s314_603 {c : Nat → List AV → SS → Option Out} {l0 l1 l2 l3 l4 l5 l6 l7 : Option AV} {x : Int32} {L2 : List (Nat × AV)} {St : List AV} {S : SS} : ev c 314 603 [l0, l1, l2, l3, l4, l5, l6, l7] L2 (aI x :: St) S = if x = 0 then ev c 314 608 [l0, l1, l2, l3, l4, l5, l6, l7] L2 St S else ev c 314 606 [l0, l1, l2, l3, l4, l5, l6, l7] L2 St S := ev_br i314_603 rfl
theorem i314_606 : insAt 314 606 = some (.iconst 0, 1, (0, 0, 0, 0), 0) := rfl
theorem s314_606 {c : Nat → List AV → SS → Option Out} {l0 l1 l2 l3 l4 l5 l6 l7 : Option AV} {L2 : List (Nat × AV)} {St : List AV} {S : SS} : ev c 314 606 [l0, l1, l2, l3, l4, l5, l6, l7] L2 St S = ev c 314 607 [l0, l1, l2, l3, l4, l5, l6, l7] L2 (aI 0 :: St) S := ev_go i314_606 rfl
theorem i314_607 : insAt 314 607 = some (.ireturn, 1, (0, 0, 0, 0), 0) := rfl
theorem s314_607 {c : Nat → List AV → SS → Option Out} {l0 l1 l2 l3 l4 l5 l6 l7 : Option AV} {x : Int32} {L2 : List (Nat × AV)} {St : List AV} {S : SS} : ev c 314 607 [l0, l1, l2, l3, l4, l5, l6, l7] L2 [aI x] S = if x = 0 ∨ x = 1 then some (.inl (some (aI x)), S) else none := ev_rt i314_607 rfl
theorem i314_608 : insAt 314 608 = some (.goto 2191, 3, (0, 0, 0, 0), 0) := rfl
theorem s314_608 {c : Nat → List AV → SS → Option Out} {l0 l1 l2 l3 l4 l5 l6 l7 : Option AV} {L2 : List (Nat × AV)} {St : List AV} {S : SS} : ev c 314 608 [l0, l1, l2, l3, l4, l5, l6, l7] L2 St S = ev c 314 2799 [l0, l1, l2, l3, l4, l5, l6, l7] L2 St S := ev_go i314_608 rfl
theorem i314_611 : insAt 314 611 = some (.aload_n 1, 1, (0, 0, 0, 0), 0) := rfl
theorem s314_611 {c : Nat → List AV → SS → Option Out} {l0 l2 l3 l4 l5 l6 l7 : Option AV} {o : OId} {L2 : List (Nat × AV)} {St : List AV} {S : SS} : ev c 314 611 [l0, some (aR o), l2, l3, l4, l5, l6, l7] L2 St S = ev c 314 612 [l0, some (aR o), l2, l3, l4, l5, l6, l7] L2 (aR o :: St) S := ev_go i314_611 rfl
theorem i314_612 : insAt 314 612 = some (.aload_n 0, 1, (0, 0, 0, 0), 0) := rfl
theorem s314_612 {c : Nat → List AV → SS → Option Out} {l1 l2 l3 l4 l5 l6 l7 : Option AV} {o : OId} {L2 : List (Nat × AV)} {St : List AV} {S : SS} : ev c 314 612 [some (aR o), l1, l2, l3, l4, l5, l6, l7] L2 St S = ev c 314 613 [some (aR o), l1, l2, l3, l4, l5, l6, l7] L2 (aR o :: St) S := ev_go i314_612 rfl
theorem i314_613 : insAt 314 613 = some (.iload 5, 2, (0, 0, 0, 0), 0) := rfl
theorem s314_613 {c : Nat → List AV → SS → Option Out} {l0 l1 l2 l3 l4 l6 l7 : Option AV} {x : Int32} {L2 : List (Nat × AV)} {St : List AV} {S : SS} : ev c 314 613 [l0, l1, l2, l3, l4, some (aI x), l6, l7] L2 St S = ev c 314 615 [l0, l1, l2, l3, l4, some (aI x), l6, l7] L2 (aI x :: St) S := ev_go i314_613 rfl
theorem i314_615 : insAt 314 615 = some (.iconst 1, 1, (0, 0, 0, 0), 0) := rfl
theorem s314_615 {c : Nat → List AV → SS → Option Out} {l0 l1 l2 l3 l4 l5 l6 l7 : Option AV} {L2 : List (Nat × AV)} {St : List AV} {S : SS} : ev c 314 615 [l0, l1, l2, l3, l4, l5, l6, l7] L2 St S = ev c 314 616 [l0, l1, l2, l3, l4, l5, l6, l7] L2 (aI 1 :: St) S := ev_go i314_615 rfl
theorem i314_616 : insAt 314 616 = some (.iadd, 1, (0, 0, 0, 0), 0) := rfl
theorem s314_616 {c : Nat → List AV → SS → Option Out} {l0 l1 l2 l3 l4 l5 l6 l7 : Option AV} {x y : Int32} {L2 : List (Nat × AV)} {St : List AV} {S : SS} : ev c 314 616 [l0, l1, l2, l3, l4, l5, l6, l7] L2 (aI y :: aI x :: St) S = ev c 314 617 [l0, l1, l2, l3, l4, l5, l6, l7] L2 (aI (x + y) :: St) S := ev_go i314_616 rfl
theorem i314_617 : insAt 314 617 = some (.iaload, 1, (0, 0, 0, 0), 0) := rfl
theorem s314_617 {c : Nat → List AV → SS → Option Out} {l0 l1 l2 l3 l4 l5 l6 l7 : Option AV} {i : Int32} {o : OId} {L2 : List (Nat × AV)} {St : List AV} {S : SS} : ev c 314 617 [l0, l1, l2, l3, l4, l5, l6, l7] L2 (aI i :: aR o :: St) S = kI o i (ev c 314 618 [l0, l1, l2, l3, l4, l5, l6, l7] L2 (aI (agI S o i.toNatClampNeg) :: St) S) := ev_iaload i314_617
theorem i314_618 : insAt 314 618 = some (.aload_n 0, 1, (0, 0, 0, 0), 0) := rfl
theorem s314_618 {c : Nat → List AV → SS → Option Out} {l1 l2 l3 l4 l5 l6 l7 : Option AV} {o : OId} {L2 : List (Nat × AV)} {St : List AV} {S : SS} : ev c 314 618 [some (aR o), l1, l2, l3, l4, l5, l6, l7] L2 St S = ev c 314 619 [some (aR o), l1, l2, l3, l4, l5, l6, l7] L2 (aR o :: St) S := ev_go i314_618 rfl
theorem i314_619 : insAt 314 619 = some (.iload 5, 2, (0, 0, 0, 0), 0) := rfl
theorem s314_619 {c : Nat → List AV → SS → Option Out} {l0 l1 l2 l3 l4 l6 l7 : Option AV} {x : Int32} {L2 : List (Nat × AV)} {St : List AV} {S : SS} : ev c 314 619 [l0, l1, l2, l3, l4, some (aI x), l6, l7] L2 St S = ev c 314 621 [l0, l1, l2, l3, l4, some (aI x), l6, l7] L2 (aI x :: St) S := ev_go i314_619 rfl
theorem i314_621 : insAt 314 621 = some (.iconst 2, 1, (0, 0, 0, 0), 0) := rfl
theorem s314_621 {c : Nat → List AV → SS → Option Out} {l0 l1 l2 l3 l4 l5 l6 l7 : Option AV} {L2 : List (Nat × AV)} {St : List AV} {S : SS} : ev c 314 621 [l0, l1, l2, l3, l4, l5, l6, l7] L2 St S = ev c 314 622 [l0, l1, l2, l3, l4, l5, l6, l7] L2 (aI 2 :: St) S := ev_go i314_621 rfl
theorem i314_622 : insAt 314 622 = some (.iadd, 1, (0, 0, 0, 0), 0) := rfl
theorem s314_622 {c : Nat → List AV → SS → Option Out} {l0 l1 l2 l3 l4 l5 l6 l7 : Option AV} {x y : Int32} {L2 : List (Nat × AV)} {St : List AV} {S : SS} : ev c 314 622 [l0, l1, l2, l3, l4, l5, l6, l7] L2 (aI y :: aI x :: St) S = ev c 314 623 [l0, l1, l2, l3, l4, l5, l6, l7] L2 (aI (x + y) :: St) S := ev_go i314_622 rfl
theorem i314_623 : insAt 314 623 = some (.iaload, 1, (0, 0, 0, 0), 0) := rfl
theorem s314_623 {c : Nat → List AV → SS → Option Out} {l0 l1 l2 l3 l4 l5 l6 l7 : Option AV} {i : Int32} {o : OId} {L2 : List (Nat × AV)} {St : List AV} {S : SS} : ev c 314 623 [l0, l1, l2, l3, l4, l5, l6, l7] L2 (aI i :: aR o :: St) S = kI o i (ev c 314 624 [l0, l1, l2, l3, l4, l5, l6, l7] L2 (aI (agI S o i.toNatClampNeg) :: St) S) := ev_iaload i314_623
theorem i314_624 : insAt 314 624 = some (.aload_n 3, 1, (0, 0, 0, 0), 0) := rfl
theorem s314_624 {c : Nat → List AV → SS → Option Out} {l0 l1 l2 l4 l5 l6 l7 : Option AV} {o : OId} {L2 : List (Nat × AV)} {St : List AV} {S : SS} : ev c 314 624 [l0, l1, l2, some (aR o), l4, l5, l6, l7] L2 St S = ev c 314 625 [l0, l1, l2, some (aR o), l4, l5, l6, l7] L2 (aR o :: St) S := ev_go i314_624 rfl
theorem i314_625 : insAt 314 625 = some (.invokestatic 174, 3, (94, 4, 0, 0), 0) := rfl
theorem s314_625 {c : Nat → List AV → SS → Option Out} {l0 l1 l2 l3 l4 l5 l6 l7 : Option AV} {a0 : OId} {a1 : Int32} {a2 : Int32} {a3 : OId} {L2 : List (Nat × AV)} {S : SS} : ev c 314 625 [l0, l1, l2, l3, l4, l5, l6, l7] L2 [aR a3, aI a2, aI a1, aR a0] S = ck (c 94 [aR a0, aI a1, aI a2, aR a3] S) (fun v S' => ev c 314 628 [l0, l1, l2, l3, l4, l5, l6, l7] L2 (v.toList ++ []) S') := ev_call i314_625 rfl
theorem i314_628 : insAt 314 628 = some (.istore 6, 2, (0, 0, 0, 0), 0) := rfl
theorem s314_628 {c : Nat → List AV → SS → Option Out} {l0 l1 l2 l3 l4 l5 l6 l7 : Option AV} {x : Int32} {L2 : List (Nat × AV)} {St : List AV} {S : SS} : ev c 314 628 [l0, l1, l2, l3, l4, l5, l6, l7] L2 (aI x :: St) S = ev c 314 630 [l0, l1, l2, l3, l4, l5, some (aI x), l7] (kil L2 6) St S := ev_go i314_628 rfl
theorem i314_630 : insAt 314 630 = some (.aload_n 2, 1, (0, 0, 0, 0), 0) := rfl
theorem s314_630 {c : Nat → List AV → SS → Option Out} {l0 l1 l3 l4 l5 l6 l7 : Option AV} {o : OId} {L2 : List (Nat × AV)} {St : List AV} {S : SS} : ev c 314 630 [l0, l1, some (aR o), l3, l4, l5, l6, l7] L2 St S = ev c 314 631 [l0, l1, some (aR o), l3, l4, l5, l6, l7] L2 (aR o :: St) S := ev_go i314_630 rfl
theorem i314_631 : insAt 314 631 = some (.aload_n 0, 1, (0, 0, 0, 0), 0) := rfl
theorem s314_631 {c : Nat → List AV → SS → Option Out} {l1 l2 l3 l4 l5 l6 l7 : Option AV} {o : OId} {L2 : List (Nat × AV)} {St : List AV} {S : SS} : ev c 314 631 [some (aR o), l1, l2, l3, l4, l5, l6, l7] L2 St S = ev c 314 632 [some (aR o), l1, l2, l3, l4, l5, l6, l7] L2 (aR o :: St) S := ev_go i314_631 rfl
theorem i314_632 : insAt 314 632 = some (.iload 5, 2, (0, 0, 0, 0), 0) := rfl
theorem s314_632 {c : Nat → List AV → SS → Option Out} {l0 l1 l2 l3 l4 l6 l7 : Option AV} {x : Int32} {L2 : List (Nat × AV)} {St : List AV} {S : SS} : ev c 314 632 [l0, l1, l2, l3, l4, some (aI x), l6, l7] L2 St S = ev c 314 634 [l0, l1, l2, l3, l4, some (aI x), l6, l7] L2 (aI x :: St) S := ev_go i314_632 rfl
theorem i314_634 : insAt 314 634 = some (.iconst 1, 1, (0, 0, 0, 0), 0) := rfl
theorem s314_634 {c : Nat → List AV → SS → Option Out} {l0 l1 l2 l3 l4 l5 l6 l7 : Option AV} {L2 : List (Nat × AV)} {St : List AV} {S : SS} : ev c 314 634 [l0, l1, l2, l3, l4, l5, l6, l7] L2 St S = ev c 314 635 [l0, l1, l2, l3, l4, l5, l6, l7] L2 (aI 1 :: St) S := ev_go i314_634 rfl
theorem i314_635 : insAt 314 635 = some (.iadd, 1, (0, 0, 0, 0), 0) := rfl
theorem s314_635 {c : Nat → List AV → SS → Option Out} {l0 l1 l2 l3 l4 l5 l6 l7 : Option AV} {x y : Int32} {L2 : List (Nat × AV)} {St : List AV} {S : SS} : ev c 314 635 [l0, l1, l2, l3, l4, l5, l6, l7] L2 (aI y :: aI x :: St) S = ev c 314 636 [l0, l1, l2, l3, l4, l5, l6, l7] L2 (aI (x + y) :: St) S := ev_go i314_635 rfl
theorem i314_636 : insAt 314 636 = some (.iaload, 1, (0, 0, 0, 0), 0) := rfl
theorem s314_636 {c : Nat → List AV → SS → Option Out} {l0 l1 l2 l3 l4 l5 l6 l7 : Option AV} {i : Int32} {o : OId} {L2 : List (Nat × AV)} {St : List AV} {S : SS} : ev c 314 636 [l0, l1, l2, l3, l4, l5, l6, l7] L2 (aI i :: aR o :: St) S = kI o i (ev c 314 637 [l0, l1, l2, l3, l4, l5, l6, l7] L2 (aI (agI S o i.toNatClampNeg) :: St) S) := ev_iaload i314_636
theorem i314_637 : insAt 314 637 = some (.aload_n 0, 1, (0, 0, 0, 0), 0) := rfl
theorem s314_637 {c : Nat → List AV → SS → Option Out} {l1 l2 l3 l4 l5 l6 l7 : Option AV} {o : OId} {L2 : List (Nat × AV)} {St : List AV} {S : SS} : ev c 314 637 [some (aR o), l1, l2, l3, l4, l5, l6, l7] L2 St S = ev c 314 638 [some (aR o), l1, l2, l3, l4, l5, l6, l7] L2 (aR o :: St) S := ev_go i314_637 rfl
theorem i314_638 : insAt 314 638 = some (.iload 5, 2, (0, 0, 0, 0), 0) := rfl
theorem s314_638 {c : Nat → List AV → SS → Option Out} {l0 l1 l2 l3 l4 l6 l7 : Option AV} {x : Int32} {L2 : List (Nat × AV)} {St : List AV} {S : SS} : ev c 314 638 [l0, l1, l2, l3, l4, some (aI x), l6, l7] L2 St S = ev c 314 640 [l0, l1, l2, l3, l4, some (aI x), l6, l7] L2 (aI x :: St) S := ev_go i314_638 rfl
theorem i314_640 : insAt 314 640 = some (.iconst 2, 1, (0, 0, 0, 0), 0) := rfl
theorem s314_640 {c : Nat → List AV → SS → Option Out} {l0 l1 l2 l3 l4 l5 l6 l7 : Option AV} {L2 : List (Nat × AV)} {St : List AV} {S : SS} : ev c 314 640 [l0, l1, l2, l3, l4, l5, l6, l7] L2 St S = ev c 314 641 [l0, l1, l2, l3, l4, l5, l6, l7] L2 (aI 2 :: St) S := ev_go i314_640 rfl
theorem i314_641 : insAt 314 641 = some (.iadd, 1, (0, 0, 0, 0), 0) := rfl
theorem s314_641 {c : Nat → List AV → SS → Option Out} {l0 l1 l2 l3 l4 l5 l6 l7 : Option AV} {x y : Int32} {L2 : List (Nat × AV)} {St : List AV} {S : SS} : ev c 314 641 [l0, l1, l2, l3, l4, l5, l6, l7] L2 (aI y :: aI x :: St) S = ev c 314 642 [l0, l1, l2, l3, l4, l5, l6, l7] L2 (aI (x + y) :: St) S := ev_go i314_641 rfl
theorem i314_642 : insAt 314 642 = some (.iaload, 1, (0, 0, 0, 0), 0) := rfl
theorem s314_642 {c : Nat → List AV → SS → Option Out} {l0 l1 l2 l3 l4 l5 l6 l7 : Option AV} {i : Int32} {o : OId} {L2 : List (Nat × AV)} {St : List AV} {S : SS} : ev c 314 642 [l0, l1, l2, l3, l4, l5, l6, l7] L2 (aI i :: aR o :: St) S = kI o i (ev c 314 643 [l0, l1, l2, l3, l4, l5, l6, l7] L2 (aI (agI S o i.toNatClampNeg) :: St) S) := ev_iaload i314_642
theorem i314_643 : insAt 314 643 = some (.invokevirtual 176, 3, (257, 2, 2, 12), 0) := rfl
theorem s314_643 {c : Nat → List AV → SS → Option Out} {l0 l1 l2 l3 l4 l5 l6 l7 : Option AV} {a0 : Int32} {a1 : Int32} {j t : Nat} {L2 : List (Nat × AV)} {S : SS} : ev c 314 643 [l0, l1, l2, l3, l4, l5, l6, l7] L2 [aI a1, aI a0, aR (12, j, t)] S = ck (c 257 [aR (12, j, t), aI a0, aI a1] S) (fun v S' => ev c 314 646 [l0, l1, l2, l3, l4, l5, l6, l7] L2 (v.toList ++ []) S') := ev_call i314_643 rfl
theorem i314_646 : insAt 314 646 = some (.istore 7, 2, (0, 0, 0, 0), 0) := rfl
theorem s314_646 {c : Nat → List AV → SS → Option Out} {l0 l1 l2 l3 l4 l5 l6 l7 : Option AV} {x : Int32} {L2 : List (Nat × AV)} {St : List AV} {S : SS} : ev c 314 646 [l0, l1, l2, l3, l4, l5, l6, l7] L2 (aI x :: St) S = ev c 314 648 [l0, l1, l2, l3, l4, l5, l6, some (aI x)] (kil L2 7) St S := ev_go i314_646 rfl
theorem i314_648 : insAt 314 648 = some (.aload_n 2, 1, (0, 0, 0, 0), 0) := rfl
theorem s314_648 {c : Nat → List AV → SS → Option Out} {l0 l1 l3 l4 l5 l6 l7 : Option AV} {o : OId} {L2 : List (Nat × AV)} {St : List AV} {S : SS} : ev c 314 648 [l0, l1, some (aR o), l3, l4, l5, l6, l7] L2 St S = ev c 314 649 [l0, l1, some (aR o), l3, l4, l5, l6, l7] L2 (aR o :: St) S := ev_go i314_648 rfl
theorem i314_649 : insAt 314 649 = some (.invokevirtual 149, 3, (218, 0, 2, 12), 0) := rfl
theorem s314_649 {c : Nat → List AV → SS → Option Out} {l0 l1 l2 l3 l4 l5 l6 l7 : Option AV} {j t : Nat} {L2 : List (Nat × AV)} {S : SS} : ev c 314 649 [l0, l1, l2, l3, l4, l5, l6, l7] L2 [aR (12, j, t)] S = ck (c 218 [aR (12, j, t)] S) (fun v S' => ev c 314 652 [l0, l1, l2, l3, l4, l5, l6, l7] L2 (v.toList ++ []) S') := ev_call i314_649 rfl
theorem i314_652 : insAt 314 652 = some (.iload 6, 2, (0, 0, 0, 0), 0) := rfl
theorem s314_652 {c : Nat → List AV → SS → Option Out} {l0 l1 l2 l3 l4 l5 l7 : Option AV} {x : Int32} {L2 : List (Nat × AV)} {St : List AV} {S : SS} : ev c 314 652 [l0, l1, l2, l3, l4, l5, some (aI x), l7] L2 St S = ev c 314 654 [l0, l1, l2, l3, l4, l5, some (aI x), l7] L2 (aI x :: St) S := ev_go i314_652 rfl
theorem i314_654 : insAt 314 654 = some (.if_icmp .eq 5, 3, (0, 0, 0, 0), 0) := rfl
theorem s314_654 {c : Nat → List AV → SS → Option Out} {l0 l1 l2 l3 l4 l5 l6 l7 : Option AV} {x y : Int32} {L2 : List (Nat × AV)} {St : List AV} {S : SS} : ev c 314 654 [l0, l1, l2, l3, l4, l5, l6, l7] L2 (aI y :: aI x :: St) S = if x = y then ev c 314 659 [l0, l1, l2, l3, l4, l5, l6, l7] L2 St S else ev c 314 657 [l0, l1, l2, l3, l4, l5, l6, l7] L2 St S := ev_br i314_654 rfl
theorem i314_657 : insAt 314 657 = some (.iconst 0, 1, (0, 0, 0, 0), 0) := rfl
theorem s314_657 {c : Nat → List AV → SS → Option Out} {l0 l1 l2 l3 l4 l5 l6 l7 : Option AV} {L2 : List (Nat × AV)} {St : List AV} {S : SS} : ev c 314 657 [l0, l1, l2, l3, l4, l5, l6, l7] L2 St S = ev c 314 658 [l0, l1, l2, l3, l4, l5, l6, l7] L2 (aI 0 :: St) S := ev_go i314_657 rfl
theorem i314_658 : insAt 314 658 = some (.ireturn, 1, (0, 0, 0, 0), 0) := rfl
theorem s314_658 {c : Nat → List AV → SS → Option Out} {l0 l1 l2 l3 l4 l5 l6 l7 : Option AV} {x : Int32} {L2 : List (Nat × AV)} {St : List AV} {S : SS} : ev c 314 658 [l0, l1, l2, l3, l4, l5, l6, l7] L2 [aI x] S = if x = 0 ∨ x = 1 then some (.inl (some (aI x)), S) else none := ev_rt i314_658 rfl
theorem i314_659 : insAt 314 659 = some (.iload 6, 2, (0, 0, 0, 0), 0) := rfl
theorem s314_659 {c : Nat → List AV → SS → Option Out} {l0 l1 l2 l3 l4 l5 l7 : Option AV} {x : Int32} {L2 : List (Nat × AV)} {St : List AV} {S : SS} : ev c 314 659 [l0, l1, l2, l3, l4, l5, some (aI x), l7] L2 St S = ev c 314 661 [l0, l1, l2, l3, l4, l5, some (aI x), l7] L2 (aI x :: St) S := ev_go i314_659 rfl
theorem i314_661 : insAt 314 661 = some (.ifCond .ne 15, 3, (0, 0, 0, 0), 0) := rfl
theorem s314_661 {c : Nat → List AV → SS → Option Out} {l0 l1 l2 l3 l4 l5 l6 l7 : Option AV} {x : Int32} {L2 : List (Nat × AV)} {St : List AV} {S : SS} : ev c 314 661 [l0, l1, l2, l3, l4, l5, l6, l7] L2 (aI x :: St) S = if x = 0 then ev c 314 664 [l0, l1, l2, l3, l4, l5, l6, l7] L2 St S else ev c 314 676 [l0, l1, l2, l3, l4, l5, l6, l7] L2 St S := (ev_br i314_661 rfl).trans (ite_not _ _ _)
theorem i314_664 : insAt 314 664 = some (.aload_n 3, 1, (0, 0, 0, 0), 0) := rfl
theorem s314_664 {c : Nat → List AV → SS → Option Out} {l0 l1 l2 l4 l5 l6 l7 : Option AV} {o : OId} {L2 : List (Nat × AV)} {St : List AV} {S : SS} : ev c 314 664 [l0, l1, l2, some (aR o), l4, l5, l6, l7] L2 St S = ev c 314 665 [l0, l1, l2, some (aR o), l4, l5, l6, l7] L2 (aR o :: St) S := ev_go i314_664 rfl
theorem i314_665 : insAt 314 665 = some (.iconst 0, 1, (0, 0, 0, 0), 0) := rfl
theorem s314_665 {c : Nat → List AV → SS → Option Out} {l0 l1 l2 l3 l4 l5 l6 l7 : Option AV} {L2 : List (Nat × AV)} {St : List AV} {S : SS} : ev c 314 665 [l0, l1, l2, l3, l4, l5, l6, l7] L2 St S = ev c 314 666 [l0, l1, l2, l3, l4, l5, l6, l7] L2 (aI 0 :: St) S := ev_go i314_665 rfl
theorem i314_666 : insAt 314 666 = some (.laload, 1, (0, 0, 0, 0), 0) := rfl
theorem s314_666 {c : Nat → List AV → SS → Option Out} {l0 l1 l2 l3 l4 l5 l6 l7 : Option AV} {i : Int32} {o : OId} {L2 : List (Nat × AV)} {St : List AV} {S : SS} : ev c 314 666 [l0, l1, l2, l3, l4, l5, l6, l7] L2 (aI i :: aR o :: St) S = kJ o i (ev c 314 667 [l0, l1, l2, l3, l4, l5, l6, l7] L2 (aL (toL (S.2.1 o i.toNatClampNeg)) :: St) S) := ev_laload i314_666
theorem i314_667 : insAt 314 667 = some (.iload 7, 2, (0, 0, 0, 0), 0) := rfl
theorem s314_667 {c : Nat → List AV → SS → Option Out} {l0 l1 l2 l3 l4 l5 l6 : Option AV} {x : Int32} {L2 : List (Nat × AV)} {St : List AV} {S : SS} : ev c 314 667 [l0, l1, l2, l3, l4, l5, l6, some (aI x)] L2 St S = ev c 314 669 [l0, l1, l2, l3, l4, l5, l6, some (aI x)] L2 (aI x :: St) S := ev_go i314_667 rfl
theorem i314_669 : insAt 314 669 = some (.i2l, 1, (0, 0, 0, 0), 0) := rfl
theorem s314_669 {c : Nat → List AV → SS → Option Out} {l0 l1 l2 l3 l4 l5 l6 l7 : Option AV} {x : Int32} {L2 : List (Nat × AV)} {St : List AV} {S : SS} : ev c 314 669 [l0, l1, l2, l3, l4, l5, l6, l7] L2 (aI x :: St) S = ev c 314 670 [l0, l1, l2, l3, l4, l5, l6, l7] L2 (aL x.toInt64 :: St) S := ev_go i314_669 rfl
theorem i314_670 : insAt 314 670 = some (.lcmp, 1, (0, 0, 0, 0), 0) := rfl
theorem s314_670 {c : Nat → List AV → SS → Option Out} {l0 l1 l2 l3 l4 l5 l6 l7 : Option AV} {x y : Int64} {L2 : List (Nat × AV)} {St : List AV} {S : SS} : ev c 314 670 [l0, l1, l2, l3, l4, l5, l6, l7] L2 (aL y :: aL x :: St) S = ev c 314 671 [l0, l1, l2, l3, l4, l5, l6, l7] L2 (aI (if x < y then -1 else if x = y then 0 else 1) :: St) S := ev_go i314_670 rfl
theorem i314_671 : insAt 314 671 = some (.ifCond .eq 5, 3, (0, 0, 0, 0), 0) := rfl
theorem s314_671 {c : Nat → List AV → SS → Option Out} {l0 l1 l2 l3 l4 l5 l6 l7 : Option AV} {x : Int32} {L2 : List (Nat × AV)} {St : List AV} {S : SS} : ev c 314 671 [l0, l1, l2, l3, l4, l5, l6, l7] L2 (aI x :: St) S = if x = 0 then ev c 314 676 [l0, l1, l2, l3, l4, l5, l6, l7] L2 St S else ev c 314 674 [l0, l1, l2, l3, l4, l5, l6, l7] L2 St S := ev_br i314_671 rfl
theorem i314_674 : insAt 314 674 = some (.iconst 0, 1, (0, 0, 0, 0), 0) := rfl
theorem s314_674 {c : Nat → List AV → SS → Option Out} {l0 l1 l2 l3 l4 l5 l6 l7 : Option AV} {L2 : List (Nat × AV)} {St : List AV} {S : SS} : ev c 314 674 [l0, l1, l2, l3, l4, l5, l6, l7] L2 St S = ev c 314 675 [l0, l1, l2, l3, l4, l5, l6, l7] L2 (aI 0 :: St) S := ev_go i314_674 rfl
theorem i314_675 : insAt 314 675 = some (.ireturn, 1, (0, 0, 0, 0), 0) := rfl
theorem s314_675 {c : Nat → List AV → SS → Option Out} {l0 l1 l2 l3 l4 l5 l6 l7 : Option AV} {x : Int32} {L2 : List (Nat × AV)} {St : List AV} {S : SS} : ev c 314 675 [l0, l1, l2, l3, l4, l5, l6, l7] L2 [aI x] S = if x = 0 ∨ x = 1 then some (.inl (some (aI x)), S) else none := ev_rt i314_675 rfl
theorem i314_676 : insAt 314 676 = some (.goto 2123, 3, (0, 0, 0, 0), 0) := rfl
theorem s314_676 {c : Nat → List AV → SS → Option Out} {l0 l1 l2 l3 l4 l5 l6 l7 : Option AV} {L2 : List (Nat × AV)} {St : List AV} {S : SS} : ev c 314 676 [l0, l1, l2, l3, l4, l5, l6, l7] L2 St S = ev c 314 2799 [l0, l1, l2, l3, l4, l5, l6, l7] L2 St S := ev_go i314_676 rfl
theorem i314_679 : insAt 314 679 = some (.aload_n 1, 1, (0, 0, 0, 0), 0) := rfl
theorem s314_679 {c : Nat → List AV → SS → Option Out} {l0 l2 l3 l4 l5 l6 l7 : Option AV} {o : OId} {L2 : List (Nat × AV)} {St : List AV} {S : SS} : ev c 314 679 [l0, some (aR o), l2, l3, l4, l5, l6, l7] L2 St S = ev c 314 680 [l0, some (aR o), l2, l3, l4, l5, l6, l7] L2 (aR o :: St) S := ev_go i314_679 rfl
theorem i314_680 : insAt 314 680 = some (.aload_n 0, 1, (0, 0, 0, 0), 0) := rfl
theorem s314_680 {c : Nat → List AV → SS → Option Out} {l1 l2 l3 l4 l5 l6 l7 : Option AV} {o : OId} {L2 : List (Nat × AV)} {St : List AV} {S : SS} : ev c 314 680 [some (aR o), l1, l2, l3, l4, l5, l6, l7] L2 St S = ev c 314 681 [some (aR o), l1, l2, l3, l4, l5, l6, l7] L2 (aR o :: St) S := ev_go i314_680 rfl
theorem i314_681 : insAt 314 681 = some (.iload 5, 2, (0, 0, 0, 0), 0) := rfl
theorem s314_681 {c : Nat → List AV → SS → Option Out} {l0 l1 l2 l3 l4 l6 l7 : Option AV} {x : Int32} {L2 : List (Nat × AV)} {St : List AV} {S : SS} : ev c 314 681 [l0, l1, l2, l3, l4, some (aI x), l6, l7] L2 St S = ev c 314 683 [l0, l1, l2, l3, l4, some (aI x), l6, l7] L2 (aI x :: St) S := ev_go i314_681 rfl
theorem i314_683 : insAt 314 683 = some (.iconst 1, 1, (0, 0, 0, 0), 0) := rfl
theorem s314_683 {c : Nat → List AV → SS → Option Out} {l0 l1 l2 l3 l4 l5 l6 l7 : Option AV} {L2 : List (Nat × AV)} {St : List AV} {S : SS} : ev c 314 683 [l0, l1, l2, l3, l4, l5, l6, l7] L2 St S = ev c 314 684 [l0, l1, l2, l3, l4, l5, l6, l7] L2 (aI 1 :: St) S := ev_go i314_683 rfl
theorem i314_684 : insAt 314 684 = some (.iadd, 1, (0, 0, 0, 0), 0) := rfl
theorem s314_684 {c : Nat → List AV → SS → Option Out} {l0 l1 l2 l3 l4 l5 l6 l7 : Option AV} {x y : Int32} {L2 : List (Nat × AV)} {St : List AV} {S : SS} : ev c 314 684 [l0, l1, l2, l3, l4, l5, l6, l7] L2 (aI y :: aI x :: St) S = ev c 314 685 [l0, l1, l2, l3, l4, l5, l6, l7] L2 (aI (x + y) :: St) S := ev_go i314_684 rfl
theorem i314_685 : insAt 314 685 = some (.iaload, 1, (0, 0, 0, 0), 0) := rfl
theorem s314_685 {c : Nat → List AV → SS → Option Out} {l0 l1 l2 l3 l4 l5 l6 l7 : Option AV} {i : Int32} {o : OId} {L2 : List (Nat × AV)} {St : List AV} {S : SS} : ev c 314 685 [l0, l1, l2, l3, l4, l5, l6, l7] L2 (aI i :: aR o :: St) S = kI o i (ev c 314 686 [l0, l1, l2, l3, l4, l5, l6, l7] L2 (aI (agI S o i.toNatClampNeg) :: St) S) := ev_iaload i314_685
theorem i314_686 : insAt 314 686 = some (.aload_n 3, 1, (0, 0, 0, 0), 0) := rfl
theorem s314_686 {c : Nat → List AV → SS → Option Out} {l0 l1 l2 l4 l5 l6 l7 : Option AV} {o : OId} {L2 : List (Nat × AV)} {St : List AV} {S : SS} : ev c 314 686 [l0, l1, l2, some (aR o), l4, l5, l6, l7] L2 St S = ev c 314 687 [l0, l1, l2, some (aR o), l4, l5, l6, l7] L2 (aR o :: St) S := ev_go i314_686 rfl
theorem i314_687 : insAt 314 687 = some (.invokestatic 177, 3, (97, 3, 0, 0), 0) := rfl
theorem s314_687 {c : Nat → List AV → SS → Option Out} {l0 l1 l2 l3 l4 l5 l6 l7 : Option AV} {a0 : OId} {a1 : Int32} {a2 : OId} {L2 : List (Nat × AV)} {S : SS} : ev c 314 687 [l0, l1, l2, l3, l4, l5, l6, l7] L2 [aR a2, aI a1, aR a0] S = ck (c 97 [aR a0, aI a1, aR a2] S) (fun v S' => ev c 314 690 [l0, l1, l2, l3, l4, l5, l6, l7] L2 (v.toList ++ []) S') := ev_call i314_687 rfl
theorem i314_690 : insAt 314 690 = some (.istore 6, 2, (0, 0, 0, 0), 0) := rfl
theorem s314_690 {c : Nat → List AV → SS → Option Out} {l0 l1 l2 l3 l4 l5 l6 l7 : Option AV} {x : Int32} {L2 : List (Nat × AV)} {St : List AV} {S : SS} : ev c 314 690 [l0, l1, l2, l3, l4, l5, l6, l7] L2 (aI x :: St) S = ev c 314 692 [l0, l1, l2, l3, l4, l5, some (aI x), l7] (kil L2 6) St S := ev_go i314_690 rfl
theorem i314_692 : insAt 314 692 = some (.aload_n 2, 1, (0, 0, 0, 0), 0) := rfl
theorem s314_692 {c : Nat → List AV → SS → Option Out} {l0 l1 l3 l4 l5 l6 l7 : Option AV} {o : OId} {L2 : List (Nat × AV)} {St : List AV} {S : SS} : ev c 314 692 [l0, l1, some (aR o), l3, l4, l5, l6, l7] L2 St S = ev c 314 693 [l0, l1, some (aR o), l3, l4, l5, l6, l7] L2 (aR o :: St) S := ev_go i314_692 rfl
theorem i314_693 : insAt 314 693 = some (.aload_n 0, 1, (0, 0, 0, 0), 0) := rfl
theorem s314_693 {c : Nat → List AV → SS → Option Out} {l1 l2 l3 l4 l5 l6 l7 : Option AV} {o : OId} {L2 : List (Nat × AV)} {St : List AV} {S : SS} : ev c 314 693 [some (aR o), l1, l2, l3, l4, l5, l6, l7] L2 St S = ev c 314 694 [some (aR o), l1, l2, l3, l4, l5, l6, l7] L2 (aR o :: St) S := ev_go i314_693 rfl
theorem i314_694 : insAt 314 694 = some (.iload 5, 2, (0, 0, 0, 0), 0) := rfl
theorem s314_694 {c : Nat → List AV → SS → Option Out} {l0 l1 l2 l3 l4 l6 l7 : Option AV} {x : Int32} {L2 : List (Nat × AV)} {St : List AV} {S : SS} : ev c 314 694 [l0, l1, l2, l3, l4, some (aI x), l6, l7] L2 St S = ev c 314 696 [l0, l1, l2, l3, l4, some (aI x), l6, l7] L2 (aI x :: St) S := ev_go i314_694 rfl
theorem i314_696 : insAt 314 696 = some (.iconst 1, 1, (0, 0, 0, 0), 0) := rfl
theorem s314_696 {c : Nat → List AV → SS → Option Out} {l0 l1 l2 l3 l4 l5 l6 l7 : Option AV} {L2 : List (Nat × AV)} {St : List AV} {S : SS} : ev c 314 696 [l0, l1, l2, l3, l4, l5, l6, l7] L2 St S = ev c 314 697 [l0, l1, l2, l3, l4, l5, l6, l7] L2 (aI 1 :: St) S := ev_go i314_696 rfl
theorem i314_697 : insAt 314 697 = some (.iadd, 1, (0, 0, 0, 0), 0) := rfl
theorem s314_697 {c : Nat → List AV → SS → Option Out} {l0 l1 l2 l3 l4 l5 l6 l7 : Option AV} {x y : Int32} {L2 : List (Nat × AV)} {St : List AV} {S : SS} : ev c 314 697 [l0, l1, l2, l3, l4, l5, l6, l7] L2 (aI y :: aI x :: St) S = ev c 314 698 [l0, l1, l2, l3, l4, l5, l6, l7] L2 (aI (x + y) :: St) S := ev_go i314_697 rfl
theorem i314_698 : insAt 314 698 = some (.iaload, 1, (0, 0, 0, 0), 0) := rfl
theorem s314_698 {c : Nat → List AV → SS → Option Out} {l0 l1 l2 l3 l4 l5 l6 l7 : Option AV} {i : Int32} {o : OId} {L2 : List (Nat × AV)} {St : List AV} {S : SS} : ev c 314 698 [l0, l1, l2, l3, l4, l5, l6, l7] L2 (aI i :: aR o :: St) S = kI o i (ev c 314 699 [l0, l1, l2, l3, l4, l5, l6, l7] L2 (aI (agI S o i.toNatClampNeg) :: St) S) := ev_iaload i314_698
theorem i314_699 : insAt 314 699 = some (.invokevirtual 180, 3, (258, 1, 2, 12), 0) := rfl
theorem s314_699 {c : Nat → List AV → SS → Option Out} {l0 l1 l2 l3 l4 l5 l6 l7 : Option AV} {a0 : Int32} {j t : Nat} {L2 : List (Nat × AV)} {S : SS} : ev c 314 699 [l0, l1, l2, l3, l4, l5, l6, l7] L2 [aI a0, aR (12, j, t)] S = ck (c 258 [aR (12, j, t), aI a0] S) (fun v S' => ev c 314 702 [l0, l1, l2, l3, l4, l5, l6, l7] L2 (v.toList ++ []) S') := ev_call i314_699 rfl
theorem i314_702 : insAt 314 702 = some (.istore 7, 2, (0, 0, 0, 0), 0) := rfl
theorem s314_702 {c : Nat → List AV → SS → Option Out} {l0 l1 l2 l3 l4 l5 l6 l7 : Option AV} {x : Int32} {L2 : List (Nat × AV)} {St : List AV} {S : SS} : ev c 314 702 [l0, l1, l2, l3, l4, l5, l6, l7] L2 (aI x :: St) S = ev c 314 704 [l0, l1, l2, l3, l4, l5, l6, some (aI x)] (kil L2 7) St S := ev_go i314_702 rfl
theorem i314_704 : insAt 314 704 = some (.aload_n 2, 1, (0, 0, 0, 0), 0) := rfl
theorem s314_704 {c : Nat → List AV → SS → Option Out} {l0 l1 l3 l4 l5 l6 l7 : Option AV} {o : OId} {L2 : List (Nat × AV)} {St : List AV} {S : SS} : ev c 314 704 [l0, l1, some (aR o), l3, l4, l5, l6, l7] L2 St S = ev c 314 705 [l0, l1, some (aR o), l3, l4, l5, l6, l7] L2 (aR o :: St) S := ev_go i314_704 rfl
theorem i314_705 : insAt 314 705 = some (.invokevirtual 149, 3, (218, 0, 2, 12), 0) := rfl
theorem s314_705 {c : Nat → List AV → SS → Option Out} {l0 l1 l2 l3 l4 l5 l6 l7 : Option AV} {j t : Nat} {L2 : List (Nat × AV)} {S : SS} : ev c 314 705 [l0, l1, l2, l3, l4, l5, l6, l7] L2 [aR (12, j, t)] S = ck (c 218 [aR (12, j, t)] S) (fun v S' => ev c 314 708 [l0, l1, l2, l3, l4, l5, l6, l7] L2 (v.toList ++ []) S') := ev_call i314_705 rfl
theorem i314_708 : insAt 314 708 = some (.iload 6, 2, (0, 0, 0, 0), 0) := rfl
theorem s314_708 {c : Nat → List AV → SS → Option Out} {l0 l1 l2 l3 l4 l5 l7 : Option AV} {x : Int32} {L2 : List (Nat × AV)} {St : List AV} {S : SS} : ev c 314 708 [l0, l1, l2, l3, l4, l5, some (aI x), l7] L2 St S = ev c 314 710 [l0, l1, l2, l3, l4, l5, some (aI x), l7] L2 (aI x :: St) S := ev_go i314_708 rfl
theorem i314_710 : insAt 314 710 = some (.if_icmp .eq 5, 3, (0, 0, 0, 0), 0) := rfl
theorem s314_710 {c : Nat → List AV → SS → Option Out} {l0 l1 l2 l3 l4 l5 l6 l7 : Option AV} {x y : Int32} {L2 : List (Nat × AV)} {St : List AV} {S : SS} : ev c 314 710 [l0, l1, l2, l3, l4, l5, l6, l7] L2 (aI y :: aI x :: St) S = if x = y then ev c 314 715 [l0, l1, l2, l3, l4, l5, l6, l7] L2 St S else ev c 314 713 [l0, l1, l2, l3, l4, l5, l6, l7] L2 St S := ev_br i314_710 rfl
theorem i314_713 : insAt 314 713 = some (.iconst 0, 1, (0, 0, 0, 0), 0) := rfl
theorem s314_713 {c : Nat → List AV → SS → Option Out} {l0 l1 l2 l3 l4 l5 l6 l7 : Option AV} {L2 : List (Nat × AV)} {St : List AV} {S : SS} : ev c 314 713 [l0, l1, l2, l3, l4, l5, l6, l7] L2 St S = ev c 314 714 [l0, l1, l2, l3, l4, l5, l6, l7] L2 (aI 0 :: St) S := ev_go i314_713 rfl
theorem i314_714 : insAt 314 714 = some (.ireturn, 1, (0, 0, 0, 0), 0) := rfl
theorem s314_714 {c : Nat → List AV → SS → Option Out} {l0 l1 l2 l3 l4 l5 l6 l7 : Option AV} {x : Int32} {L2 : List (Nat × AV)} {St : List AV} {S : SS} : ev c 314 714 [l0, l1, l2, l3, l4, l5, l6, l7] L2 [aI x] S = if x = 0 ∨ x = 1 then some (.inl (some (aI x)), S) else none := ev_rt i314_714 rfl
theorem i314_715 : insAt 314 715 = some (.iload 6, 2, (0, 0, 0, 0), 0) := rfl
theorem s314_715 {c : Nat → List AV → SS → Option Out} {l0 l1 l2 l3 l4 l5 l7 : Option AV} {x : Int32} {L2 : List (Nat × AV)} {St : List AV} {S : SS} : ev c 314 715 [l0, l1, l2, l3, l4, l5, some (aI x), l7] L2 St S = ev c 314 717 [l0, l1, l2, l3, l4, l5, some (aI x), l7] L2 (aI x :: St) S := ev_go i314_715 rfl
theorem i314_717 : insAt 314 717 = some (.ifCond .ne 15, 3, (0, 0, 0, 0), 0) := rfl
theorem s314_717 {c : Nat → List AV → SS → Option Out} {l0 l1 l2 l3 l4 l5 l6 l7 : Option AV} {x : Int32} {L2 : List (Nat × AV)} {St : List AV} {S : SS} : ev c 314 717 [l0, l1, l2, l3, l4, l5, l6, l7] L2 (aI x :: St) S = if x = 0 then ev c 314 720 [l0, l1, l2, l3, l4, l5, l6, l7] L2 St S else ev c 314 732 [l0, l1, l2, l3, l4, l5, l6, l7] L2 St S := (ev_br i314_717 rfl).trans (ite_not _ _ _)
theorem i314_720 : insAt 314 720 = some (.aload_n 3, 1, (0, 0, 0, 0), 0) := rfl
theorem s314_720 {c : Nat → List AV → SS → Option Out} {l0 l1 l2 l4 l5 l6 l7 : Option AV} {o : OId} {L2 : List (Nat × AV)} {St : List AV} {S : SS} : ev c 314 720 [l0, l1, l2, some (aR o), l4, l5, l6, l7] L2 St S = ev c 314 721 [l0, l1, l2, some (aR o), l4, l5, l6, l7] L2 (aR o :: St) S := ev_go i314_720 rfl
theorem i314_721 : insAt 314 721 = some (.iconst 0, 1, (0, 0, 0, 0), 0) := rfl
theorem s314_721 {c : Nat → List AV → SS → Option Out} {l0 l1 l2 l3 l4 l5 l6 l7 : Option AV} {L2 : List (Nat × AV)} {St : List AV} {S : SS} : ev c 314 721 [l0, l1, l2, l3, l4, l5, l6, l7] L2 St S = ev c 314 722 [l0, l1, l2, l3, l4, l5, l6, l7] L2 (aI 0 :: St) S := ev_go i314_721 rfl
theorem i314_722 : insAt 314 722 = some (.laload, 1, (0, 0, 0, 0), 0) := rfl
theorem s314_722 {c : Nat → List AV → SS → Option Out} {l0 l1 l2 l3 l4 l5 l6 l7 : Option AV} {i : Int32} {o : OId} {L2 : List (Nat × AV)} {St : List AV} {S : SS} : ev c 314 722 [l0, l1, l2, l3, l4, l5, l6, l7] L2 (aI i :: aR o :: St) S = kJ o i (ev c 314 723 [l0, l1, l2, l3, l4, l5, l6, l7] L2 (aL (toL (S.2.1 o i.toNatClampNeg)) :: St) S) := ev_laload i314_722
theorem i314_723 : insAt 314 723 = some (.iload 7, 2, (0, 0, 0, 0), 0) := rfl
theorem s314_723 {c : Nat → List AV → SS → Option Out} {l0 l1 l2 l3 l4 l5 l6 : Option AV} {x : Int32} {L2 : List (Nat × AV)} {St : List AV} {S : SS} : ev c 314 723 [l0, l1, l2, l3, l4, l5, l6, some (aI x)] L2 St S = ev c 314 725 [l0, l1, l2, l3, l4, l5, l6, some (aI x)] L2 (aI x :: St) S := ev_go i314_723 rfl
theorem i314_725 : insAt 314 725 = some (.i2l, 1, (0, 0, 0, 0), 0) := rfl
theorem s314_725 {c : Nat → List AV → SS → Option Out} {l0 l1 l2 l3 l4 l5 l6 l7 : Option AV} {x : Int32} {L2 : List (Nat × AV)} {St : List AV} {S : SS} : ev c 314 725 [l0, l1, l2, l3, l4, l5, l6, l7] L2 (aI x :: St) S = ev c 314 726 [l0, l1, l2, l3, l4, l5, l6, l7] L2 (aL x.toInt64 :: St) S := ev_go i314_725 rfl
theorem i314_726 : insAt 314 726 = some (.lcmp, 1, (0, 0, 0, 0), 0) := rfl
theorem s314_726 {c : Nat → List AV → SS → Option Out} {l0 l1 l2 l3 l4 l5 l6 l7 : Option AV} {x y : Int64} {L2 : List (Nat × AV)} {St : List AV} {S : SS} : ev c 314 726 [l0, l1, l2, l3, l4, l5, l6, l7] L2 (aL y :: aL x :: St) S = ev c 314 727 [l0, l1, l2, l3, l4, l5, l6, l7] L2 (aI (if x < y then -1 else if x = y then 0 else 1) :: St) S := ev_go i314_726 rfl
theorem i314_727 : insAt 314 727 = some (.ifCond .eq 5, 3, (0, 0, 0, 0), 0) := rfl
theorem s314_727 {c : Nat → List AV → SS → Option Out} {l0 l1 l2 l3 l4 l5 l6 l7 : Option AV} {x : Int32} {L2 : List (Nat × AV)} {St : List AV} {S : SS} : ev c 314 727 [l0, l1, l2, l3, l4, l5, l6, l7] L2 (aI x :: St) S = if x = 0 then ev c 314 732 [l0, l1, l2, l3, l4, l5, l6, l7] L2 St S else ev c 314 730 [l0, l1, l2, l3, l4, l5, l6, l7] L2 St S := ev_br i314_727 rfl
theorem i314_730 : insAt 314 730 = some (.iconst 0, 1, (0, 0, 0, 0), 0) := rfl
theorem s314_730 {c : Nat → List AV → SS → Option Out} {l0 l1 l2 l3 l4 l5 l6 l7 : Option AV} {L2 : List (Nat × AV)} {St : List AV} {S : SS} : ev c 314 730 [l0, l1, l2, l3, l4, l5, l6, l7] L2 St S = ev c 314 731 [l0, l1, l2, l3, l4, l5, l6, l7] L2 (aI 0 :: St) S := ev_go i314_730 rfl
theorem i314_731 : insAt 314 731 = some (.ireturn, 1, (0, 0, 0, 0), 0) := rfl
theorem s314_731 {c : Nat → List AV → SS → Option Out} {l0 l1 l2 l3 l4 l5 l6 l7 : Option AV} {x : Int32} {L2 : List (Nat × AV)} {St : List AV} {S : SS} : ev c 314 731 [l0, l1, l2, l3, l4, l5, l6, l7] L2 [aI x] S = if x = 0 ∨ x = 1 then some (.inl (some (aI x)), S) else none := ev_rt i314_731 rfl
theorem i314_732 : insAt 314 732 = some (.goto 2067, 3, (0, 0, 0, 0), 0) := rfl
theorem s314_732 {c : Nat → List AV → SS → Option Out} {l0 l1 l2 l3 l4 l5 l6 l7 : Option AV} {L2 : List (Nat × AV)} {St : List AV} {S : SS} : ev c 314 732 [l0, l1, l2, l3, l4, l5, l6, l7] L2 St S = ev c 314 2799 [l0, l1, l2, l3, l4, l5, l6, l7] L2 St S := ev_go i314_732 rfl
theorem i314_735 : insAt 314 735 = some (.aload_n 1, 1, (0, 0, 0, 0), 0) := rfl
theorem s314_735 {c : Nat → List AV → SS → Option Out} {l0 l2 l3 l4 l5 l6 l7 : Option AV} {o : OId} {L2 : List (Nat × AV)} {St : List AV} {S : SS} : ev c 314 735 [l0, some (aR o), l2, l3, l4, l5, l6, l7] L2 St S = ev c 314 736 [l0, some (aR o), l2, l3, l4, l5, l6, l7] L2 (aR o :: St) S := ev_go i314_735 rfl
theorem i314_736 : insAt 314 736 = some (.aload_n 0, 1, (0, 0, 0, 0), 0) := rfl
theorem s314_736 {c : Nat → List AV → SS → Option Out} {l1 l2 l3 l4 l5 l6 l7 : Option AV} {o : OId} {L2 : List (Nat × AV)} {St : List AV} {S : SS} : ev c 314 736 [some (aR o), l1, l2, l3, l4, l5, l6, l7] L2 St S = ev c 314 737 [some (aR o), l1, l2, l3, l4, l5, l6, l7] L2 (aR o :: St) S := ev_go i314_736 rfl
theorem i314_737 : insAt 314 737 = some (.iload 5, 2, (0, 0, 0, 0), 0) := rfl
theorem s314_737 {c : Nat → List AV → SS → Option Out} {l0 l1 l2 l3 l4 l6 l7 : Option AV} {x : Int32} {L2 : List (Nat × AV)} {St : List AV} {S : SS} : ev c 314 737 [l0, l1, l2, l3, l4, some (aI x), l6, l7] L2 St S = ev c 314 739 [l0, l1, l2, l3, l4, some (aI x), l6, l7] L2 (aI x :: St) S := ev_go i314_737 rfl
theorem i314_739 : insAt 314 739 = some (.iconst 1, 1, (0, 0, 0, 0), 0) := rfl
theorem s314_739 {c : Nat → List AV → SS → Option Out} {l0 l1 l2 l3 l4 l5 l6 l7 : Option AV} {L2 : List (Nat × AV)} {St : List AV} {S : SS} : ev c 314 739 [l0, l1, l2, l3, l4, l5, l6, l7] L2 St S = ev c 314 740 [l0, l1, l2, l3, l4, l5, l6, l7] L2 (aI 1 :: St) S := ev_go i314_739 rfl
theorem i314_740 : insAt 314 740 = some (.iadd, 1, (0, 0, 0, 0), 0) := rfl
theorem s314_740 {c : Nat → List AV → SS → Option Out} {l0 l1 l2 l3 l4 l5 l6 l7 : Option AV} {x y : Int32} {L2 : List (Nat × AV)} {St : List AV} {S : SS} : ev c 314 740 [l0, l1, l2, l3, l4, l5, l6, l7] L2 (aI y :: aI x :: St) S = ev c 314 741 [l0, l1, l2, l3, l4, l5, l6, l7] L2 (aI (x + y) :: St) S := ev_go i314_740 rfl
theorem i314_741 : insAt 314 741 = some (.iaload, 1, (0, 0, 0, 0), 0) := rfl
theorem s314_741 {c : Nat → List AV → SS → Option Out} {l0 l1 l2 l3 l4 l5 l6 l7 : Option AV} {i : Int32} {o : OId} {L2 : List (Nat × AV)} {St : List AV} {S : SS} : ev c 314 741 [l0, l1, l2, l3, l4, l5, l6, l7] L2 (aI i :: aR o :: St) S = kI o i (ev c 314 742 [l0, l1, l2, l3, l4, l5, l6, l7] L2 (aI (agI S o i.toNatClampNeg) :: St) S) := ev_iaload i314_741
theorem i314_742 : insAt 314 742 = some (.aload_n 3, 1, (0, 0, 0, 0), 0) := rfl
theorem s314_742 {c : Nat → List AV → SS → Option Out} {l0 l1 l2 l4 l5 l6 l7 : Option AV} {o : OId} {L2 : List (Nat × AV)} {St : List AV} {S : SS} : ev c 314 742 [l0, l1, l2, some (aR o), l4, l5, l6, l7] L2 St S = ev c 314 743 [l0, l1, l2, some (aR o), l4, l5, l6, l7] L2 (aR o :: St) S := ev_go i314_742 rfl
theorem i314_743 : insAt 314 743 = some (.invokestatic 181, 3, (99, 3, 0, 0), 0) := rfl
theorem s314_743 {c : Nat → List AV → SS → Option Out} {l0 l1 l2 l3 l4 l5 l6 l7 : Option AV} {a0 : OId} {a1 : Int32} {a2 : OId} {L2 : List (Nat × AV)} {S : SS} : ev c 314 743 [l0, l1, l2, l3, l4, l5, l6, l7] L2 [aR a2, aI a1, aR a0] S = ck (c 99 [aR a0, aI a1, aR a2] S) (fun v S' => ev c 314 746 [l0, l1, l2, l3, l4, l5, l6, l7] L2 (v.toList ++ []) S') := ev_call i314_743 rfl
theorem i314_746 : insAt 314 746 = some (.istore 6, 2, (0, 0, 0, 0), 0) := rfl
theorem s314_746 {c : Nat → List AV → SS → Option Out} {l0 l1 l2 l3 l4 l5 l6 l7 : Option AV} {x : Int32} {L2 : List (Nat × AV)} {St : List AV} {S : SS} : ev c 314 746 [l0, l1, l2, l3, l4, l5, l6, l7] L2 (aI x :: St) S = ev c 314 748 [l0, l1, l2, l3, l4, l5, some (aI x), l7] (kil L2 6) St S := ev_go i314_746 rfl
theorem i314_748 : insAt 314 748 = some (.aload_n 2, 1, (0, 0, 0, 0), 0) := rfl
theorem s314_748 {c : Nat → List AV → SS → Option Out} {l0 l1 l3 l4 l5 l6 l7 : Option AV} {o : OId} {L2 : List (Nat × AV)} {St : List AV} {S : SS} : ev c 314 748 [l0, l1, some (aR o), l3, l4, l5, l6, l7] L2 St S = ev c 314 749 [l0, l1, some (aR o), l3, l4, l5, l6, l7] L2 (aR o :: St) S := ev_go i314_748 rfl
theorem i314_749 : insAt 314 749 = some (.aload_n 0, 1, (0, 0, 0, 0), 0) := rfl
theorem s314_749 {c : Nat → List AV → SS → Option Out} {l1 l2 l3 l4 l5 l6 l7 : Option AV} {o : OId} {L2 : List (Nat × AV)} {St : List AV} {S : SS} : ev c 314 749 [some (aR o), l1, l2, l3, l4, l5, l6, l7] L2 St S = ev c 314 750 [some (aR o), l1, l2, l3, l4, l5, l6, l7] L2 (aR o :: St) S := ev_go i314_749 rfl
theorem i314_750 : insAt 314 750 = some (.iload 5, 2, (0, 0, 0, 0), 0) := rfl
theorem s314_750 {c : Nat → List AV → SS → Option Out} {l0 l1 l2 l3 l4 l6 l7 : Option AV} {x : Int32} {L2 : List (Nat × AV)} {St : List AV} {S : SS} : ev c 314 750 [l0, l1, l2, l3, l4, some (aI x), l6, l7] L2 St S = ev c 314 752 [l0, l1, l2, l3, l4, some (aI x), l6, l7] L2 (aI x :: St) S := ev_go i314_750 rfl
theorem i314_752 : insAt 314 752 = some (.iconst 1, 1, (0, 0, 0, 0), 0) := rfl
theorem s314_752 {c : Nat → List AV → SS → Option Out} {l0 l1 l2 l3 l4 l5 l6 l7 : Option AV} {L2 : List (Nat × AV)} {St : List AV} {S : SS} : ev c 314 752 [l0, l1, l2, l3, l4, l5, l6, l7] L2 St S = ev c 314 753 [l0, l1, l2, l3, l4, l5, l6, l7] L2 (aI 1 :: St) S := ev_go i314_752 rfl
theorem i314_753 : insAt 314 753 = some (.iadd, 1, (0, 0, 0, 0), 0) := rfl
theorem s314_753 {c : Nat → List AV → SS → Option Out} {l0 l1 l2 l3 l4 l5 l6 l7 : Option AV} {x y : Int32} {L2 : List (Nat × AV)} {St : List AV} {S : SS} : ev c 314 753 [l0, l1, l2, l3, l4, l5, l6, l7] L2 (aI y :: aI x :: St) S = ev c 314 754 [l0, l1, l2, l3, l4, l5, l6, l7] L2 (aI (x + y) :: St) S := ev_go i314_753 rfl
theorem i314_754 : insAt 314 754 = some (.iaload, 1, (0, 0, 0, 0), 0) := rfl
theorem s314_754 {c : Nat → List AV → SS → Option Out} {l0 l1 l2 l3 l4 l5 l6 l7 : Option AV} {i : Int32} {o : OId} {L2 : List (Nat × AV)} {St : List AV} {S : SS} : ev c 314 754 [l0, l1, l2, l3, l4, l5, l6, l7] L2 (aI i :: aR o :: St) S = kI o i (ev c 314 755 [l0, l1, l2, l3, l4, l5, l6, l7] L2 (aI (agI S o i.toNatClampNeg) :: St) S) := ev_iaload i314_754
theorem i314_755 : insAt 314 755 = some (.invokevirtual 183, 3, (260, 1, 2, 12), 0) := rfl
theorem s314_755 {c : Nat → List AV → SS → Option Out} {l0 l1 l2 l3 l4 l5 l6 l7 : Option AV} {a0 : Int32} {j t : Nat} {L2 : List (Nat × AV)} {S : SS} : ev c 314 755 [l0, l1, l2, l3, l4, l5, l6, l7] L2 [aI a0, aR (12, j, t)] S = ck (c 260 [aR (12, j, t), aI a0] S) (fun v S' => ev c 314 758 [l0, l1, l2, l3, l4, l5, l6, l7] L2 (v.toList ++ []) S') := ev_call i314_755 rfl
theorem i314_758 : insAt 314 758 = some (.istore 7, 2, (0, 0, 0, 0), 0) := rfl
theorem s314_758 {c : Nat → List AV → SS → Option Out} {l0 l1 l2 l3 l4 l5 l6 l7 : Option AV} {x : Int32} {L2 : List (Nat × AV)} {St : List AV} {S : SS} : ev c 314 758 [l0, l1, l2, l3, l4, l5, l6, l7] L2 (aI x :: St) S = ev c 314 760 [l0, l1, l2, l3, l4, l5, l6, some (aI x)] (kil L2 7) St S := ev_go i314_758 rfl
theorem i314_760 : insAt 314 760 = some (.aload_n 2, 1, (0, 0, 0, 0), 0) := rfl
theorem s314_760 {c : Nat → List AV → SS → Option Out} {l0 l1 l3 l4 l5 l6 l7 : Option AV} {o : OId} {L2 : List (Nat × AV)} {St : List AV} {S : SS} : ev c 314 760 [l0, l1, some (aR o), l3, l4, l5, l6, l7] L2 St S = ev c 314 761 [l0, l1, some (aR o), l3, l4, l5, l6, l7] L2 (aR o :: St) S := ev_go i314_760 rfl
theorem i314_761 : insAt 314 761 = some (.invokevirtual 149, 3, (218, 0, 2, 12), 0) := rfl
theorem s314_761 {c : Nat → List AV → SS → Option Out} {l0 l1 l2 l3 l4 l5 l6 l7 : Option AV} {j t : Nat} {L2 : List (Nat × AV)} {S : SS} : ev c 314 761 [l0, l1, l2, l3, l4, l5, l6, l7] L2 [aR (12, j, t)] S = ck (c 218 [aR (12, j, t)] S) (fun v S' => ev c 314 764 [l0, l1, l2, l3, l4, l5, l6, l7] L2 (v.toList ++ []) S') := ev_call i314_761 rfl
theorem i314_764 : insAt 314 764 = some (.iload 6, 2, (0, 0, 0, 0), 0) := rfl
theorem s314_764 {c : Nat → List AV → SS → Option Out} {l0 l1 l2 l3 l4 l5 l7 : Option AV} {x : Int32} {L2 : List (Nat × AV)} {St : List AV} {S : SS} : ev c 314 764 [l0, l1, l2, l3, l4, l5, some (aI x), l7] L2 St S = ev c 314 766 [l0, l1, l2, l3, l4, l5, some (aI x), l7] L2 (aI x :: St) S := ev_go i314_764 rfl
theorem i314_766 : insAt 314 766 = some (.if_icmp .eq 5, 3, (0, 0, 0, 0), 0) := rfl
theorem s314_766 {c : Nat → List AV → SS → Option Out} {l0 l1 l2 l3 l4 l5 l6 l7 : Option AV} {x y : Int32} {L2 : List (Nat × AV)} {St : List AV} {S : SS} : ev c 314 766 [l0, l1, l2, l3, l4, l5, l6, l7] L2 (aI y :: aI x :: St) S = if x = y then ev c 314 771 [l0, l1, l2, l3, l4, l5, l6, l7] L2 St S else ev c 314 769 [l0, l1, l2, l3, l4, l5, l6, l7] L2 St S := ev_br i314_766 rfl
theorem i314_769 : insAt 314 769 = some (.iconst 0, 1, (0, 0, 0, 0), 0) := rfl
theorem s314_769 {c : Nat → List AV → SS → Option Out} {l0 l1 l2 l3 l4 l5 l6 l7 : Option AV} {L2 : List (Nat × AV)} {St : List AV} {S : SS} : ev c 314 769 [l0, l1, l2, l3, l4, l5, l6, l7] L2 St S = ev c 314 770 [l0, l1, l2, l3, l4, l5, l6, l7] L2 (aI 0 :: St) S := ev_go i314_769 rfl
theorem i314_770 : insAt 314 770 = some (.ireturn, 1, (0, 0, 0, 0), 0) := rfl
theorem s314_770 {c : Nat → List AV → SS → Option Out} {l0 l1 l2 l3 l4 l5 l6 l7 : Option AV} {x : Int32} {L2 : List (Nat × AV)} {St : List AV} {S : SS} : ev c 314 770 [l0, l1, l2, l3, l4, l5, l6, l7] L2 [aI x] S = if x = 0 ∨ x = 1 then some (.inl (some (aI x)), S) else none := ev_rt i314_770 rfl
theorem i314_771 : insAt 314 771 = some (.iload 6, 2, (0, 0, 0, 0), 0) := rfl
theorem s314_771 {c : Nat → List AV → SS → Option Out} {l0 l1 l2 l3 l4 l5 l7 : Option AV} {x : Int32} {L2 : List (Nat × AV)} {St : List AV} {S : SS} : ev c 314 771 [l0, l1, l2, l3, l4, l5, some (aI x), l7] L2 St S = ev c 314 773 [l0, l1, l2, l3, l4, l5, some (aI x), l7] L2 (aI x :: St) S := ev_go i314_771 rfl
theorem i314_773 : insAt 314 773 = some (.ifCond .ne 15, 3, (0, 0, 0, 0), 0) := rfl
theorem s314_773 {c : Nat → List AV → SS → Option Out} {l0 l1 l2 l3 l4 l5 l6 l7 : Option AV} {x : Int32} {L2 : List (Nat × AV)} {St : List AV} {S : SS} : ev c 314 773 [l0, l1, l2, l3, l4, l5, l6, l7] L2 (aI x :: St) S = if x = 0 then ev c 314 776 [l0, l1, l2, l3, l4, l5, l6, l7] L2 St S else ev c 314 788 [l0, l1, l2, l3, l4, l5, l6, l7] L2 St S := (ev_br i314_773 rfl).trans (ite_not _ _ _)
theorem i314_776 : insAt 314 776 = some (.aload_n 3, 1, (0, 0, 0, 0), 0) := rfl
theorem s314_776 {c : Nat → List AV → SS → Option Out} {l0 l1 l2 l4 l5 l6 l7 : Option AV} {o : OId} {L2 : List (Nat × AV)} {St : List AV} {S : SS} : ev c 314 776 [l0, l1, l2, some (aR o), l4, l5, l6, l7] L2 St S = ev c 314 777 [l0, l1, l2, some (aR o), l4, l5, l6, l7] L2 (aR o :: St) S := ev_go i314_776 rfl
theorem i314_777 : insAt 314 777 = some (.iconst 0, 1, (0, 0, 0, 0), 0) := rfl
theorem s314_777 {c : Nat → List AV → SS → Option Out} {l0 l1 l2 l3 l4 l5 l6 l7 : Option AV} {L2 : List (Nat × AV)} {St : List AV} {S : SS} : ev c 314 777 [l0, l1, l2, l3, l4, l5, l6, l7] L2 St S = ev c 314 778 [l0, l1, l2, l3, l4, l5, l6, l7] L2 (aI 0 :: St) S := ev_go i314_777 rfl
theorem i314_778 : insAt 314 778 = some (.laload, 1, (0, 0, 0, 0), 0) := rfl
theorem s314_778 {c : Nat → List AV → SS → Option Out} {l0 l1 l2 l3 l4 l5 l6 l7 : Option AV} {i : Int32} {o : OId} {L2 : List (Nat × AV)} {St : List AV} {S : SS} : ev c 314 778 [l0, l1, l2, l3, l4, l5, l6, l7] L2 (aI i :: aR o :: St) S = kJ o i (ev c 314 779 [l0, l1, l2, l3, l4, l5, l6, l7] L2 (aL (toL (S.2.1 o i.toNatClampNeg)) :: St) S) := ev_laload i314_778
theorem i314_779 : insAt 314 779 = some (.iload 7, 2, (0, 0, 0, 0), 0) := rfl
theorem s314_779 {c : Nat → List AV → SS → Option Out} {l0 l1 l2 l3 l4 l5 l6 : Option AV} {x : Int32} {L2 : List (Nat × AV)} {St : List AV} {S : SS} : ev c 314 779 [l0, l1, l2, l3, l4, l5, l6, some (aI x)] L2 St S = ev c 314 781 [l0, l1, l2, l3, l4, l5, l6, some (aI x)] L2 (aI x :: St) S := ev_go i314_779 rfl
theorem i314_781 : insAt 314 781 = some (.i2l, 1, (0, 0, 0, 0), 0) := rfl
theorem s314_781 {c : Nat → List AV → SS → Option Out} {l0 l1 l2 l3 l4 l5 l6 l7 : Option AV} {x : Int32} {L2 : List (Nat × AV)} {St : List AV} {S : SS} : ev c 314 781 [l0, l1, l2, l3, l4, l5, l6, l7] L2 (aI x :: St) S = ev c 314 782 [l0, l1, l2, l3, l4, l5, l6, l7] L2 (aL x.toInt64 :: St) S := ev_go i314_781 rfl
theorem i314_782 : insAt 314 782 = some (.lcmp, 1, (0, 0, 0, 0), 0) := rfl
theorem s314_782 {c : Nat → List AV → SS → Option Out} {l0 l1 l2 l3 l4 l5 l6 l7 : Option AV} {x y : Int64} {L2 : List (Nat × AV)} {St : List AV} {S : SS} : ev c 314 782 [l0, l1, l2, l3, l4, l5, l6, l7] L2 (aL y :: aL x :: St) S = ev c 314 783 [l0, l1, l2, l3, l4, l5, l6, l7] L2 (aI (if x < y then -1 else if x = y then 0 else 1) :: St) S := ev_go i314_782 rfl
theorem i314_783 : insAt 314 783 = some (.ifCond .eq 5, 3, (0, 0, 0, 0), 0) := rfl
theorem s314_783 {c : Nat → List AV → SS → Option Out} {l0 l1 l2 l3 l4 l5 l6 l7 : Option AV} {x : Int32} {L2 : List (Nat × AV)} {St : List AV} {S : SS} : ev c 314 783 [l0, l1, l2, l3, l4, l5, l6, l7] L2 (aI x :: St) S = if x = 0 then ev c 314 788 [l0, l1, l2, l3, l4, l5, l6, l7] L2 St S else ev c 314 786 [l0, l1, l2, l3, l4, l5, l6, l7] L2 St S := ev_br i314_783 rfl
theorem i314_786 : insAt 314 786 = some (.iconst 0, 1, (0, 0, 0, 0), 0) := rfl
theorem s314_786 {c : Nat → List AV → SS → Option Out} {l0 l1 l2 l3 l4 l5 l6 l7 : Option AV} {L2 : List (Nat × AV)} {St : List AV} {S : SS} : ev c 314 786 [l0, l1, l2, l3, l4, l5, l6, l7] L2 St S = ev c 314 787 [l0, l1, l2, l3, l4, l5, l6, l7] L2 (aI 0 :: St) S := ev_go i314_786 rfl
theorem i314_787 : insAt 314 787 = some (.ireturn, 1, (0, 0, 0, 0), 0) := rfl
theorem s314_787 {c : Nat → List AV → SS → Option Out} {l0 l1 l2 l3 l4 l5 l6 l7 : Option AV} {x : Int32} {L2 : List (Nat × AV)} {St : List AV} {S : SS} : ev c 314 787 [l0, l1, l2, l3, l4, l5, l6, l7] L2 [aI x] S = if x = 0 ∨ x = 1 then some (.inl (some (aI x)), S) else none := ev_rt i314_787 rfl
theorem i314_788 : insAt 314 788 = some (.goto 2011, 3, (0, 0, 0, 0), 0) := rfl
theorem s314_788 {c : Nat → List AV → SS → Option Out} {l0 l1 l2 l3 l4 l5 l6 l7 : Option AV} {L2 : List (Nat × AV)} {St : List AV} {S : SS} : ev c 314 788 [l0, l1, l2, l3, l4, l5, l6, l7] L2 St S = ev c 314 2799 [l0, l1, l2, l3, l4, l5, l6, l7] L2 St S := ev_go i314_788 rfl
theorem i314_791 : insAt 314 791 = some (.aload_n 1, 1, (0, 0, 0, 0), 0) := rfl
theorem s314_791 {c : Nat → List AV → SS → Option Out} {l0 l2 l3 l4 l5 l6 l7 : Option AV} {o : OId} {L2 : List (Nat × AV)} {St : List AV} {S : SS} : ev c 314 791 [l0, some (aR o), l2, l3, l4, l5, l6, l7] L2 St S = ev c 314 792 [l0, some (aR o), l2, l3, l4, l5, l6, l7] L2 (aR o :: St) S := ev_go i314_791 rfl
theorem i314_792 : insAt 314 792 = some (.invokevirtual 184, 3, (13, 0, 2, 11), 0) := rfl
theorem s314_792 {c : Nat → List AV → SS → Option Out} {l0 l1 l2 l3 l4 l5 l6 l7 : Option AV} {j t : Nat} {L2 : List (Nat × AV)} {S : SS} : ev c 314 792 [l0, l1, l2, l3, l4, l5, l6, l7] L2 [aR (11, j, t)] S = ck (c 13 [aR (11, j, t)] S) (fun v S' => ev c 314 795 [l0, l1, l2, l3, l4, l5, l6, l7] L2 (v.toList ++ []) S') := ev_call i314_792 rfl
theorem i314_795 : insAt 314 795 = some (.aload_n 2, 1, (0, 0, 0, 0), 0) := rfl
theorem s314_795 {c : Nat → List AV → SS → Option Out} {l0 l1 l3 l4 l5 l6 l7 : Option AV} {o : OId} {L2 : List (Nat × AV)} {St : List AV} {S : SS} : ev c 314 795 [l0, l1, some (aR o), l3, l4, l5, l6, l7] L2 St S = ev c 314 796 [l0, l1, some (aR o), l3, l4, l5, l6, l7] L2 (aR o :: St) S := ev_go i314_795 rfl
theorem i314_796 : insAt 314 796 = some (.invokevirtual 187, 3, (261, 0, 2, 12), 0) := rfl
theorem s314_796 {c : Nat → List AV → SS → Option Out} {l0 l1 l2 l3 l4 l5 l6 l7 : Option AV} {t0 : AV} {j t : Nat} {L2 : List (Nat × AV)} {S : SS} : ev c 314 796 [l0, l1, l2, l3, l4, l5, l6, l7] L2 [aR (12, j, t), t0] S = ck (c 261 [aR (12, j, t)] S) (fun v S' => ev c 314 799 [l0, l1, l2, l3, l4, l5, l6, l7] L2 (v.toList ++ [t0]) S') := ev_call i314_796 rfl
theorem i314_799 : insAt 314 799 = some (.if_icmp .eq 2000, 3, (0, 0, 0, 0), 0) := rfl
theorem s314_799 {c : Nat → List AV → SS → Option Out} {l0 l1 l2 l3 l4 l5 l6 l7 : Option AV} {x y : Int32} {L2 : List (Nat × AV)} {St : List AV} {S : SS} : ev c 314 799 [l0, l1, l2, l3, l4, l5, l6, l7] L2 (aI y :: aI x :: St) S = if x = y then ev c 314 2799 [l0, l1, l2, l3, l4, l5, l6, l7] L2 St S else ev c 314 802 [l0, l1, l2, l3, l4, l5, l6, l7] L2 St S := ev_br i314_799 rfl
theorem i314_802 : insAt 314 802 = some (.iconst 0, 1, (0, 0, 0, 0), 0) := rfl
theorem s314_802 {c : Nat → List AV → SS → Option Out} {l0 l1 l2 l3 l4 l5 l6 l7 : Option AV} {L2 : List (Nat × AV)} {St : List AV} {S : SS} : ev c 314 802 [l0, l1, l2, l3, l4, l5, l6, l7] L2 St S = ev c 314 803 [l0, l1, l2, l3, l4, l5, l6, l7] L2 (aI 0 :: St) S := ev_go i314_802 rfl
theorem i314_803 : insAt 314 803 = some (.ireturn, 1, (0, 0, 0, 0), 0) := rfl
theorem s314_803 {c : Nat → List AV → SS → Option Out} {l0 l1 l2 l3 l4 l5 l6 l7 : Option AV} {x : Int32} {L2 : List (Nat × AV)} {St : List AV} {S : SS} : ev c 314 803 [l0, l1, l2, l3, l4, l5, l6, l7] L2 [aI x] S = if x = 0 ∨ x = 1 then some (.inl (some (aI x)), S) else none := ev_rt i314_803 rfl
theorem i314_804 : insAt 314 804 = some (.aload_n 1, 1, (0, 0, 0, 0), 0) := rfl
theorem s314_804 {c : Nat → List AV → SS → Option Out} {l0 l2 l3 l4 l5 l6 l7 : Option AV} {o : OId} {L2 : List (Nat × AV)} {St : List AV} {S : SS} : ev c 314 804 [l0, some (aR o), l2, l3, l4, l5, l6, l7] L2 St S = ev c 314 805 [l0, some (aR o), l2, l3, l4, l5, l6, l7] L2 (aR o :: St) S := ev_go i314_804 rfl
theorem i314_805 : insAt 314 805 = some (.invokevirtual 188, 3, (14, 0, 2, 11), 0) := rfl
theorem s314_805 {c : Nat → List AV → SS → Option Out} {l0 l1 l2 l3 l4 l5 l6 l7 : Option AV} {j t : Nat} {L2 : List (Nat × AV)} {S : SS} : ev c 314 805 [l0, l1, l2, l3, l4, l5, l6, l7] L2 [aR (11, j, t)] S = ck (c 14 [aR (11, j, t)] S) (fun v S' => ev c 314 808 [l0, l1, l2, l3, l4, l5, l6, l7] L2 (v.toList ++ []) S') := ev_call i314_805 rfl
theorem i314_808 : insAt 314 808 = some (.aload_n 2, 1, (0, 0, 0, 0), 0) := rfl
theorem s314_808 {c : Nat → List AV → SS → Option Out} {l0 l1 l3 l4 l5 l6 l7 : Option AV} {o : OId} {L2 : List (Nat × AV)} {St : List AV} {S : SS} : ev c 314 808 [l0, l1, some (aR o), l3, l4, l5, l6, l7] L2 St S = ev c 314 809 [l0, l1, some (aR o), l3, l4, l5, l6, l7] L2 (aR o :: St) S := ev_go i314_808 rfl
theorem i314_809 : insAt 314 809 = some (.invokevirtual 191, 3, (262, 0, 2, 12), 0) := rfl
theorem s314_809 {c : Nat → List AV → SS → Option Out} {l0 l1 l2 l3 l4 l5 l6 l7 : Option AV} {t0 : AV} {j t : Nat} {L2 : List (Nat × AV)} {S : SS} : ev c 314 809 [l0, l1, l2, l3, l4, l5, l6, l7] L2 [aR (12, j, t), t0] S = ck (c 262 [aR (12, j, t)] S) (fun v S' => ev c 314 812 [l0, l1, l2, l3, l4, l5, l6, l7] L2 (v.toList ++ [t0]) S') := ev_call i314_809 rfl
theorem i314_812 : insAt 314 812 = some (.if_icmp .eq 1987, 3, (0, 0, 0, 0), 0) := rfl
theorem s314_812 {c : Nat → List AV → SS → Option Out} {l0 l1 l2 l3 l4 l5 l6 l7 : Option AV} {x y : Int32} {L2 : List (Nat × AV)} {St : List AV} {S : SS} : ev c 314 812 [l0, l1, l2, l3, l4, l5, l6, l7] L2 (aI y :: aI x :: St) S = if x = y then ev c 314 2799 [l0, l1, l2, l3, l4, l5, l6, l7] L2 St S else ev c 314 815 [l0, l1, l2, l3, l4, l5, l6, l7] L2 St S := ev_br i314_812 rfl
theorem i314_815 : insAt 314 815 = some (.iconst 0, 1, (0, 0, 0, 0), 0) := rfl
theorem s314_815 {c : Nat → List AV → SS → Option Out} {l0 l1 l2 l3 l4 l5 l6 l7 : Option AV} {L2 : List (Nat × AV)} {St : List AV} {S : SS} : ev c 314 815 [l0, l1, l2, l3, l4, l5, l6, l7] L2 St S = ev c 314 816 [l0, l1, l2, l3, l4, l5, l6, l7] L2 (aI 0 :: St) S := ev_go i314_815 rfl
theorem i314_816 : insAt 314 816 = some (.ireturn, 1, (0, 0, 0, 0), 0) := rfl
theorem s314_816 {c : Nat → List AV → SS → Option Out} {l0 l1 l2 l3 l4 l5 l6 l7 : Option AV} {x : Int32} {L2 : List (Nat × AV)} {St : List AV} {S : SS} : ev c 314 816 [l0, l1, l2, l3, l4, l5, l6, l7] L2 [aI x] S = if x = 0 ∨ x = 1 then some (.inl (some (aI x)), S) else none := ev_rt i314_816 rfl
theorem i314_817 : insAt 314 817 = some (.aload_n 1, 1, (0, 0, 0, 0), 0) := rfl
theorem s314_817 {c : Nat → List AV → SS → Option Out} {l0 l2 l3 l4 l5 l6 l7 : Option AV} {o : OId} {L2 : List (Nat × AV)} {St : List AV} {S : SS} : ev c 314 817 [l0, some (aR o), l2, l3, l4, l5, l6, l7] L2 St S = ev c 314 818 [l0, some (aR o), l2, l3, l4, l5, l6, l7] L2 (aR o :: St) S := ev_go i314_817 rfl
theorem i314_818 : insAt 314 818 = some (.invokevirtual 192, 3, (15, 0, 2, 11), 0) := rfl
theorem s314_818 {c : Nat → List AV → SS → Option Out} {l0 l1 l2 l3 l4 l5 l6 l7 : Option AV} {j t : Nat} {L2 : List (Nat × AV)} {S : SS} : ev c 314 818 [l0, l1, l2, l3, l4, l5, l6, l7] L2 [aR (11, j, t)] S = ck (c 15 [aR (11, j, t)] S) (fun v S' => ev c 314 821 [l0, l1, l2, l3, l4, l5, l6, l7] L2 (v.toList ++ []) S') := ev_call i314_818 rfl
theorem i314_821 : insAt 314 821 = some (.aload_n 2, 1, (0, 0, 0, 0), 0) := rfl
theorem s314_821 {c : Nat → List AV → SS → Option Out} {l0 l1 l3 l4 l5 l6 l7 : Option AV} {o : OId} {L2 : List (Nat × AV)} {St : List AV} {S : SS} : ev c 314 821 [l0, l1, some (aR o), l3, l4, l5, l6, l7] L2 St S = ev c 314 822 [l0, l1, some (aR o), l3, l4, l5, l6, l7] L2 (aR o :: St) S := ev_go i314_821 rfl
theorem i314_822 : insAt 314 822 = some (.invokevirtual 195, 3, (263, 0, 2, 12), 0) := rfl
theorem s314_822 {c : Nat → List AV → SS → Option Out} {l0 l1 l2 l3 l4 l5 l6 l7 : Option AV} {t0 : AV} {j t : Nat} {L2 : List (Nat × AV)} {S : SS} : ev c 314 822 [l0, l1, l2, l3, l4, l5, l6, l7] L2 [aR (12, j, t), t0] S = ck (c 263 [aR (12, j, t)] S) (fun v S' => ev c 314 825 [l0, l1, l2, l3, l4, l5, l6, l7] L2 (v.toList ++ [t0]) S') := ev_call i314_822 rfl
theorem i314_825 : insAt 314 825 = some (.if_icmp .eq 1974, 3, (0, 0, 0, 0), 0) := rfl
theorem s314_825 {c : Nat → List AV → SS → Option Out} {l0 l1 l2 l3 l4 l5 l6 l7 : Option AV} {x y : Int32} {L2 : List (Nat × AV)} {St : List AV} {S : SS} : ev c 314 825 [l0, l1, l2, l3, l4, l5, l6, l7] L2 (aI y :: aI x :: St) S = if x = y then ev c 314 2799 [l0, l1, l2, l3, l4, l5, l6, l7] L2 St S else ev c 314 828 [l0, l1, l2, l3, l4, l5, l6, l7] L2 St S := ev_br i314_825 rfl
theorem i314_828 : insAt 314 828 = some (.iconst 0, 1, (0, 0, 0, 0), 0) := rfl
theorem s314_828 {c : Nat → List AV → SS → Option Out} {l0 l1 l2 l3 l4 l5 l6 l7 : Option AV} {L2 : List (Nat × AV)} {St : List AV} {S : SS} : ev c 314 828 [l0, l1, l2, l3, l4, l5, l6, l7] L2 St S = ev c 314 829 [l0, l1, l2, l3, l4, l5, l6, l7] L2 (aI 0 :: St) S := ev_go i314_828 rfl
theorem i314_829 : insAt 314 829 = some (.ireturn, 1, (0, 0, 0, 0), 0) := rfl
theorem s314_829 {c : Nat → List AV → SS → Option Out} {l0 l1 l2 l3 l4 l5 l6 l7 : Option AV} {x : Int32} {L2 : List (Nat × AV)} {St : List AV} {S : SS} : ev c 314 829 [l0, l1, l2, l3, l4, l5, l6, l7] L2 [aI x] S = if x = 0 ∨ x = 1 then some (.inl (some (aI x)), S) else none := ev_rt i314_829 rfl
theorem i314_830 : insAt 314 830 = some (.aload_n 1, 1, (0, 0, 0, 0), 0) := rfl
theorem s314_830 {c : Nat → List AV → SS → Option Out} {l0 l2 l3 l4 l5 l6 l7 : Option AV} {o : OId} {L2 : List (Nat × AV)} {St : List AV} {S : SS} : ev c 314 830 [l0, some (aR o), l2, l3, l4, l5, l6, l7] L2 St S = ev c 314 831 [l0, some (aR o), l2, l3, l4, l5, l6, l7] L2 (aR o :: St) S := ev_go i314_830 rfl
theorem i314_831 : insAt 314 831 = some (.aload_n 0, 1, (0, 0, 0, 0), 0) := rfl
theorem s314_831 {c : Nat → List AV → SS → Option Out} {l1 l2 l3 l4 l5 l6 l7 : Option AV} {o : OId} {L2 : List (Nat × AV)} {St : List AV} {S : SS} : ev c 314 831 [some (aR o), l1, l2, l3, l4, l5, l6, l7] L2 St S = ev c 314 832 [some (aR o), l1, l2, l3, l4, l5, l6, l7] L2 (aR o :: St) S := ev_go i314_831 rfl
theorem i314_832 : insAt 314 832 = some (.iload 5, 2, (0, 0, 0, 0), 0) := rfl
theorem s314_832 {c : Nat → List AV → SS → Option Out} {l0 l1 l2 l3 l4 l6 l7 : Option AV} {x : Int32} {L2 : List (Nat × AV)} {St : List AV} {S : SS} : ev c 314 832 [l0, l1, l2, l3, l4, some (aI x), l6, l7] L2 St S = ev c 314 834 [l0, l1, l2, l3, l4, some (aI x), l6, l7] L2 (aI x :: St) S := ev_go i314_832 rfl
theorem i314_834 : insAt 314 834 = some (.iconst 1, 1, (0, 0, 0, 0), 0) := rfl
theorem s314_834 {c : Nat → List AV → SS → Option Out} {l0 l1 l2 l3 l4 l5 l6 l7 : Option AV} {L2 : List (Nat × AV)} {St : List AV} {S : SS} : ev c 314 834 [l0, l1, l2, l3, l4, l5, l6, l7] L2 St S = ev c 314 835 [l0, l1, l2, l3, l4, l5, l6, l7] L2 (aI 1 :: St) S := ev_go i314_834 rfl
theorem i314_835 : insAt 314 835 = some (.iadd, 1, (0, 0, 0, 0), 0) := rfl
theorem s314_835 {c : Nat → List AV → SS → Option Out} {l0 l1 l2 l3 l4 l5 l6 l7 : Option AV} {x y : Int32} {L2 : List (Nat × AV)} {St : List AV} {S : SS} : ev c 314 835 [l0, l1, l2, l3, l4, l5, l6, l7] L2 (aI y :: aI x :: St) S = ev c 314 836 [l0, l1, l2, l3, l4, l5, l6, l7] L2 (aI (x + y) :: St) S := ev_go i314_835 rfl
theorem i314_836 : insAt 314 836 = some (.iaload, 1, (0, 0, 0, 0), 0) := rfl
theorem s314_836 {c : Nat → List AV → SS → Option Out} {l0 l1 l2 l3 l4 l5 l6 l7 : Option AV} {i : Int32} {o : OId} {L2 : List (Nat × AV)} {St : List AV} {S : SS} : ev c 314 836 [l0, l1, l2, l3, l4, l5, l6, l7] L2 (aI i :: aR o :: St) S = kI o i (ev c 314 837 [l0, l1, l2, l3, l4, l5, l6, l7] L2 (aI (agI S o i.toNatClampNeg) :: St) S) := ev_iaload i314_836
theorem i314_837 : insAt 314 837 = some (.invokevirtual 196, 3, (18, 1, 2, 11), 0) := rfl
theorem s314_837 {c : Nat → List AV → SS → Option Out} {l0 l1 l2 l3 l4 l5 l6 l7 : Option AV} {a0 : Int32} {j t : Nat} {L2 : List (Nat × AV)} {S : SS} : ev c 314 837 [l0, l1, l2, l3, l4, l5, l6, l7] L2 [aI a0, aR (11, j, t)] S = ck (c 18 [aR (11, j, t), aI a0] S) (fun v S' => ev c 314 840 [l0, l1, l2, l3, l4, l5, l6, l7] L2 (v.toList ++ []) S') := ev_call i314_837 rfl
theorem i314_840 : insAt 314 840 = some (.aload_n 2, 1, (0, 0, 0, 0), 0) := rfl
theorem s314_840 {c : Nat → List AV → SS → Option Out} {l0 l1 l3 l4 l5 l6 l7 : Option AV} {o : OId} {L2 : List (Nat × AV)} {St : List AV} {S : SS} : ev c 314 840 [l0, l1, some (aR o), l3, l4, l5, l6, l7] L2 St S = ev c 314 841 [l0, l1, some (aR o), l3, l4, l5, l6, l7] L2 (aR o :: St) S := ev_go i314_840 rfl
theorem i314_841 : insAt 314 841 = some (.aload_n 0, 1, (0, 0, 0, 0), 0) := rfl
theorem s314_841 {c : Nat → List AV → SS → Option Out} {l1 l2 l3 l4 l5 l6 l7 : Option AV} {o : OId} {L2 : List (Nat × AV)} {St : List AV} {S : SS} : ev c 314 841 [some (aR o), l1, l2, l3, l4, l5, l6, l7] L2 St S = ev c 314 842 [some (aR o), l1, l2, l3, l4, l5, l6, l7] L2 (aR o :: St) S := ev_go i314_841 rfl
theorem i314_842 : insAt 314 842 = some (.iload 5, 2, (0, 0, 0, 0), 0) := rfl
theorem s314_842 {c : Nat → List AV → SS → Option Out} {l0 l1 l2 l3 l4 l6 l7 : Option AV} {x : Int32} {L2 : List (Nat × AV)} {St : List AV} {S : SS} : ev c 314 842 [l0, l1, l2, l3, l4, some (aI x), l6, l7] L2 St S = ev c 314 844 [l0, l1, l2, l3, l4, some (aI x), l6, l7] L2 (aI x :: St) S := ev_go i314_842 rfl
theorem i314_844 : insAt 314 844 = some (.iconst 1, 1, (0, 0, 0, 0), 0) := rfl
theorem s314_844 {c : Nat → List AV → SS → Option Out} {l0 l1 l2 l3 l4 l5 l6 l7 : Option AV} {L2 : List (Nat × AV)} {St : List AV} {S : SS} : ev c 314 844 [l0, l1, l2, l3, l4, l5, l6, l7] L2 St S = ev c 314 845 [l0, l1, l2, l3, l4, l5, l6, l7] L2 (aI 1 :: St) S := ev_go i314_844 rfl
theorem i314_845 : insAt 314 845 = some (.iadd, 1, (0, 0, 0, 0), 0) := rfl
theorem s314_845 {c : Nat → List AV → SS → Option Out} {l0 l1 l2 l3 l4 l5 l6 l7 : Option AV} {x y : Int32} {L2 : List (Nat × AV)} {St : List AV} {S : SS} : ev c 314 845 [l0, l1, l2, l3, l4, l5, l6, l7] L2 (aI y :: aI x :: St) S = ev c 314 846 [l0, l1, l2, l3, l4, l5, l6, l7] L2 (aI (x + y) :: St) S := ev_go i314_845 rfl
theorem i314_846 : insAt 314 846 = some (.iaload, 1, (0, 0, 0, 0), 0) := rfl
theorem s314_846 {c : Nat → List AV → SS → Option Out} {l0 l1 l2 l3 l4 l5 l6 l7 : Option AV} {i : Int32} {o : OId} {L2 : List (Nat × AV)} {St : List AV} {S : SS} : ev c 314 846 [l0, l1, l2, l3, l4, l5, l6, l7] L2 (aI i :: aR o :: St) S = kI o i (ev c 314 847 [l0, l1, l2, l3, l4, l5, l6, l7] L2 (aI (agI S o i.toNatClampNeg) :: St) S) := ev_iaload i314_846
theorem i314_847 : insAt 314 847 = some (.invokevirtual 199, 3, (265, 1, 2, 12), 0) := rfl
theorem s314_847 {c : Nat → List AV → SS → Option Out} {l0 l1 l2 l3 l4 l5 l6 l7 : Option AV} {t0 : AV} {a0 : Int32} {j t : Nat} {L2 : List (Nat × AV)} {S : SS} : ev c 314 847 [l0, l1, l2, l3, l4, l5, l6, l7] L2 [aI a0, aR (12, j, t), t0] S = ck (c 265 [aR (12, j, t), aI a0] S) (fun v S' => ev c 314 850 [l0, l1, l2, l3, l4, l5, l6, l7] L2 (v.toList ++ [t0]) S') := ev_call i314_847 rfl
theorem i314_850 : insAt 314 850 = some (.if_icmp .eq 1949, 3, (0, 0, 0, 0), 0) := rfl
theorem s314_850 {c : Nat → List AV → SS → Option Out} {l0 l1 l2 l3 l4 l5 l6 l7 : Option AV} {x y : Int32} {L2 : List (Nat × AV)} {St : List AV} {S : SS} : ev c 314 850 [l0, l1, l2, l3, l4, l5, l6, l7] L2 (aI y :: aI x :: St) S = if x = y then ev c 314 2799 [l0, l1, l2, l3, l4, l5, l6, l7] L2 St S else ev c 314 853 [l0, l1, l2, l3, l4, l5, l6, l7] L2 St S := ev_br i314_850 rfl
theorem i314_853 : insAt 314 853 = some (.iconst 0, 1, (0, 0, 0, 0), 0) := rfl
theorem s314_853 {c : Nat → List AV → SS → Option Out} {l0 l1 l2 l3 l4 l5 l6 l7 : Option AV} {L2 : List (Nat × AV)} {St : List AV} {S : SS} : ev c 314 853 [l0, l1, l2, l3, l4, l5, l6, l7] L2 St S = ev c 314 854 [l0, l1, l2, l3, l4, l5, l6, l7] L2 (aI 0 :: St) S := ev_go i314_853 rfl
theorem i314_854 : insAt 314 854 = some (.ireturn, 1, (0, 0, 0, 0), 0) := rfl
theorem s314_854 {c : Nat → List AV → SS → Option Out} {l0 l1 l2 l3 l4 l5 l6 l7 : Option AV} {x : Int32} {L2 : List (Nat × AV)} {St : List AV} {S : SS} : ev c 314 854 [l0, l1, l2, l3, l4, l5, l6, l7] L2 [aI x] S = if x = 0 ∨ x = 1 then some (.inl (some (aI x)), S) else none := ev_rt i314_854 rfl
theorem i314_855 : insAt 314 855 = some (.aload_n 1, 1, (0, 0, 0, 0), 0) := rfl
theorem s314_855 {c : Nat → List AV → SS → Option Out} {l0 l2 l3 l4 l5 l6 l7 : Option AV} {o : OId} {L2 : List (Nat × AV)} {St : List AV} {S : SS} : ev c 314 855 [l0, some (aR o), l2, l3, l4, l5, l6, l7] L2 St S = ev c 314 856 [l0, some (aR o), l2, l3, l4, l5, l6, l7] L2 (aR o :: St) S := ev_go i314_855 rfl
theorem i314_856 : insAt 314 856 = some (.aload_n 0, 1, (0, 0, 0, 0), 0) := rfl
theorem s314_856 {c : Nat → List AV → SS → Option Out} {l1 l2 l3 l4 l5 l6 l7 : Option AV} {o : OId} {L2 : List (Nat × AV)} {St : List AV} {S : SS} : ev c 314 856 [some (aR o), l1, l2, l3, l4, l5, l6, l7] L2 St S = ev c 314 857 [some (aR o), l1, l2, l3, l4, l5, l6, l7] L2 (aR o :: St) S := ev_go i314_856 rfl
theorem i314_857 : insAt 314 857 = some (.iload 5, 2, (0, 0, 0, 0), 0) := rfl
theorem s314_857 {c : Nat → List AV → SS → Option Out} {l0 l1 l2 l3 l4 l6 l7 : Option AV} {x : Int32} {L2 : List (Nat × AV)} {St : List AV} {S : SS} : ev c 314 857 [l0, l1, l2, l3, l4, some (aI x), l6, l7] L2 St S = ev c 314 859 [l0, l1, l2, l3, l4, some (aI x), l6, l7] L2 (aI x :: St) S := ev_go i314_857 rfl
theorem i314_859 : insAt 314 859 = some (.iconst 1, 1, (0, 0, 0, 0), 0) := rfl
theorem s314_859 {c : Nat → List AV → SS → Option Out} {l0 l1 l2 l3 l4 l5 l6 l7 : Option AV} {L2 : List (Nat × AV)} {St : List AV} {S : SS} : ev c 314 859 [l0, l1, l2, l3, l4, l5, l6, l7] L2 St S = ev c 314 860 [l0, l1, l2, l3, l4, l5, l6, l7] L2 (aI 1 :: St) S := ev_go i314_859 rfl
theorem i314_860 : insAt 314 860 = some (.iadd, 1, (0, 0, 0, 0), 0) := rfl
theorem s314_860 {c : Nat → List AV → SS → Option Out} {l0 l1 l2 l3 l4 l5 l6 l7 : Option AV} {x y : Int32} {L2 : List (Nat × AV)} {St : List AV} {S : SS} : ev c 314 860 [l0, l1, l2, l3, l4, l5, l6, l7] L2 (aI y :: aI x :: St) S = ev c 314 861 [l0, l1, l2, l3, l4, l5, l6, l7] L2 (aI (x + y) :: St) S := ev_go i314_860 rfl
theorem i314_861 : insAt 314 861 = some (.iaload, 1, (0, 0, 0, 0), 0) := rfl
theorem s314_861 {c : Nat → List AV → SS → Option Out} {l0 l1 l2 l3 l4 l5 l6 l7 : Option AV} {i : Int32} {o : OId} {L2 : List (Nat × AV)} {St : List AV} {S : SS} : ev c 314 861 [l0, l1, l2, l3, l4, l5, l6, l7] L2 (aI i :: aR o :: St) S = kI o i (ev c 314 862 [l0, l1, l2, l3, l4, l5, l6, l7] L2 (aI (agI S o i.toNatClampNeg) :: St) S) := ev_iaload i314_861
theorem i314_862 : insAt 314 862 = some (.aload_n 3, 1, (0, 0, 0, 0), 0) := rfl
theorem s314_862 {c : Nat → List AV → SS → Option Out} {l0 l1 l2 l4 l5 l6 l7 : Option AV} {o : OId} {L2 : List (Nat × AV)} {St : List AV} {S : SS} : ev c 314 862 [l0, l1, l2, some (aR o), l4, l5, l6, l7] L2 St S = ev c 314 863 [l0, l1, l2, some (aR o), l4, l5, l6, l7] L2 (aR o :: St) S := ev_go i314_862 rfl
theorem i314_863 : insAt 314 863 = some (.invokestatic 200, 3, (102, 3, 0, 0), 0) := rfl
theorem s314_863 {c : Nat → List AV → SS → Option Out} {l0 l1 l2 l3 l4 l5 l6 l7 : Option AV} {a0 : OId} {a1 : Int32} {a2 : OId} {L2 : List (Nat × AV)} {S : SS} : ev c 314 863 [l0, l1, l2, l3, l4, l5, l6, l7] L2 [aR a2, aI a1, aR a0] S = ck (c 102 [aR a0, aI a1, aR a2] S) (fun v S' => ev c 314 866 [l0, l1, l2, l3, l4, l5, l6, l7] L2 (v.toList ++ []) S') := ev_call i314_863 rfl
theorem i314_866 : insAt 314 866 = some (.istore 6, 2, (0, 0, 0, 0), 0) := rfl
theorem s314_866 {c : Nat → List AV → SS → Option Out} {l0 l1 l2 l3 l4 l5 l6 l7 : Option AV} {x : Int32} {L2 : List (Nat × AV)} {St : List AV} {S : SS} : ev c 314 866 [l0, l1, l2, l3, l4, l5, l6, l7] L2 (aI x :: St) S = ev c 314 868 [l0, l1, l2, l3, l4, l5, some (aI x), l7] (kil L2 6) St S := ev_go i314_866 rfl
theorem i314_868 : insAt 314 868 = some (.aload_n 2, 1, (0, 0, 0, 0), 0) := rfl
theorem s314_868 {c : Nat → List AV → SS → Option Out} {l0 l1 l3 l4 l5 l6 l7 : Option AV} {o : OId} {L2 : List (Nat × AV)} {St : List AV} {S : SS} : ev c 314 868 [l0, l1, some (aR o), l3, l4, l5, l6, l7] L2 St S = ev c 314 869 [l0, l1, some (aR o), l3, l4, l5, l6, l7] L2 (aR o :: St) S := ev_go i314_868 rfl
theorem i314_869 : insAt 314 869 = some (.aload_n 0, 1, (0, 0, 0, 0), 0) := rfl
theorem s314_869 {c : Nat → List AV → SS → Option Out} {l1 l2 l3 l4 l5 l6 l7 : Option AV} {o : OId} {L2 : List (Nat × AV)} {St : List AV} {S : SS} : ev c 314 869 [some (aR o), l1, l2, l3, l4, l5, l6, l7] L2 St S = ev c 314 870 [some (aR o), l1, l2, l3, l4, l5, l6, l7] L2 (aR o :: St) S := ev_go i314_869 rfl
theorem i314_870 : insAt 314 870 = some (.iload 5, 2, (0, 0, 0, 0), 0) := rfl
theorem s314_870 {c : Nat → List AV → SS → Option Out} {l0 l1 l2 l3 l4 l6 l7 : Option AV} {x : Int32} {L2 : List (Nat × AV)} {St : List AV} {S : SS} : ev c 314 870 [l0, l1, l2, l3, l4, some (aI x), l6, l7] L2 St S = ev c 314 872 [l0, l1, l2, l3, l4, some (aI x), l6, l7] L2 (aI x :: St) S := ev_go i314_870 rfl
theorem i314_872 : insAt 314 872 = some (.iconst 1, 1, (0, 0, 0, 0), 0) := rfl
theorem s314_872 {c : Nat → List AV → SS → Option Out} {l0 l1 l2 l3 l4 l5 l6 l7 : Option AV} {L2 : List (Nat × AV)} {St : List AV} {S : SS} : ev c 314 872 [l0, l1, l2, l3, l4, l5, l6, l7] L2 St S = ev c 314 873 [l0, l1, l2, l3, l4, l5, l6, l7] L2 (aI 1 :: St) S := ev_go i314_872 rfl
theorem i314_873 : insAt 314 873 = some (.iadd, 1, (0, 0, 0, 0), 0) := rfl
theorem s314_873 {c : Nat → List AV → SS → Option Out} {l0 l1 l2 l3 l4 l5 l6 l7 : Option AV} {x y : Int32} {L2 : List (Nat × AV)} {St : List AV} {S : SS} : ev c 314 873 [l0, l1, l2, l3, l4, l5, l6, l7] L2 (aI y :: aI x :: St) S = ev c 314 874 [l0, l1, l2, l3, l4, l5, l6, l7] L2 (aI (x + y) :: St) S := ev_go i314_873 rfl
theorem i314_874 : insAt 314 874 = some (.iaload, 1, (0, 0, 0, 0), 0) := rfl
theorem s314_874 {c : Nat → List AV → SS → Option Out} {l0 l1 l2 l3 l4 l5 l6 l7 : Option AV} {i : Int32} {o : OId} {L2 : List (Nat × AV)} {St : List AV} {S : SS} : ev c 314 874 [l0, l1, l2, l3, l4, l5, l6, l7] L2 (aI i :: aR o :: St) S = kI o i (ev c 314 875 [l0, l1, l2, l3, l4, l5, l6, l7] L2 (aI (agI S o i.toNatClampNeg) :: St) S) := ev_iaload i314_874
theorem i314_875 : insAt 314 875 = some (.invokevirtual 202, 3, (266, 1, 2, 12), 0) := rfl
theorem s314_875 {c : Nat → List AV → SS → Option Out} {l0 l1 l2 l3 l4 l5 l6 l7 : Option AV} {a0 : Int32} {j t : Nat} {L2 : List (Nat × AV)} {S : SS} : ev c 314 875 [l0, l1, l2, l3, l4, l5, l6, l7] L2 [aI a0, aR (12, j, t)] S = ck (c 266 [aR (12, j, t), aI a0] S) (fun v S' => ev c 314 878 [l0, l1, l2, l3, l4, l5, l6, l7] L2 (v.toList ++ []) S') := ev_call i314_875 rfl
theorem i314_878 : insAt 314 878 = some (.istore 7, 2, (0, 0, 0, 0), 0) := rfl
theorem s314_878 {c : Nat → List AV → SS → Option Out} {l0 l1 l2 l3 l4 l5 l6 l7 : Option AV} {x : Int32} {L2 : List (Nat × AV)} {St : List AV} {S : SS} : ev c 314 878 [l0, l1, l2, l3, l4, l5, l6, l7] L2 (aI x :: St) S = ev c 314 880 [l0, l1, l2, l3, l4, l5, l6, some (aI x)] (kil L2 7) St S := ev_go i314_878 rfl
theorem i314_880 : insAt 314 880 = some (.aload_n 2, 1, (0, 0, 0, 0), 0) := rfl
theorem s314_880 {c : Nat → List AV → SS → Option Out} {l0 l1 l3 l4 l5 l6 l7 : Option AV} {o : OId} {L2 : List (Nat × AV)} {St : List AV} {S : SS} : ev c 314 880 [l0, l1, some (aR o), l3, l4, l5, l6, l7] L2 St S = ev c 314 881 [l0, l1, some (aR o), l3, l4, l5, l6, l7] L2 (aR o :: St) S := ev_go i314_880 rfl
theorem i314_881 : insAt 314 881 = some (.invokevirtual 149, 3, (218, 0, 2, 12), 0) := rfl
theorem s314_881 {c : Nat → List AV → SS → Option Out} {l0 l1 l2 l3 l4 l5 l6 l7 : Option AV} {j t : Nat} {L2 : List (Nat × AV)} {S : SS} : ev c 314 881 [l0, l1, l2, l3, l4, l5, l6, l7] L2 [aR (12, j, t)] S = ck (c 218 [aR (12, j, t)] S) (fun v S' => ev c 314 884 [l0, l1, l2, l3, l4, l5, l6, l7] L2 (v.toList ++ []) S') := ev_call i314_881 rfl
theorem i314_884 : insAt 314 884 = some (.iload 6, 2, (0, 0, 0, 0), 0) := rfl
theorem s314_884 {c : Nat → List AV → SS → Option Out} {l0 l1 l2 l3 l4 l5 l7 : Option AV} {x : Int32} {L2 : List (Nat × AV)} {St : List AV} {S : SS} : ev c 314 884 [l0, l1, l2, l3, l4, l5, some (aI x), l7] L2 St S = ev c 314 886 [l0, l1, l2, l3, l4, l5, some (aI x), l7] L2 (aI x :: St) S := ev_go i314_884 rfl
theorem i314_886 : insAt 314 886 = some (.if_icmp .eq 5, 3, (0, 0, 0, 0), 0) := rfl
theorem s314_886 {c : Nat → List AV → SS → Option Out} {l0 l1 l2 l3 l4 l5 l6 l7 : Option AV} {x y : Int32} {L2 : List (Nat × AV)} {St : List AV} {S : SS} : ev c 314 886 [l0, l1, l2, l3, l4, l5, l6, l7] L2 (aI y :: aI x :: St) S = if x = y then ev c 314 891 [l0, l1, l2, l3, l4, l5, l6, l7] L2 St S else ev c 314 889 [l0, l1, l2, l3, l4, l5, l6, l7] L2 St S := ev_br i314_886 rfl
theorem i314_889 : insAt 314 889 = some (.iconst 0, 1, (0, 0, 0, 0), 0) := rfl
theorem s314_889 {c : Nat → List AV → SS → Option Out} {l0 l1 l2 l3 l4 l5 l6 l7 : Option AV} {L2 : List (Nat × AV)} {St : List AV} {S : SS} : ev c 314 889 [l0, l1, l2, l3, l4, l5, l6, l7] L2 St S = ev c 314 890 [l0, l1, l2, l3, l4, l5, l6, l7] L2 (aI 0 :: St) S := ev_go i314_889 rfl
theorem i314_890 : insAt 314 890 = some (.ireturn, 1, (0, 0, 0, 0), 0) := rfl
theorem s314_890 {c : Nat → List AV → SS → Option Out} {l0 l1 l2 l3 l4 l5 l6 l7 : Option AV} {x : Int32} {L2 : List (Nat × AV)} {St : List AV} {S : SS} : ev c 314 890 [l0, l1, l2, l3, l4, l5, l6, l7] L2 [aI x] S = if x = 0 ∨ x = 1 then some (.inl (some (aI x)), S) else none := ev_rt i314_890 rfl
theorem i314_891 : insAt 314 891 = some (.iload 6, 2, (0, 0, 0, 0), 0) := rfl
theorem s314_891 {c : Nat → List AV → SS → Option Out} {l0 l1 l2 l3 l4 l5 l7 : Option AV} {x : Int32} {L2 : List (Nat × AV)} {St : List AV} {S : SS} : ev c 314 891 [l0, l1, l2, l3, l4, l5, some (aI x), l7] L2 St S = ev c 314 893 [l0, l1, l2, l3, l4, l5, some (aI x), l7] L2 (aI x :: St) S := ev_go i314_891 rfl
theorem i314_893 : insAt 314 893 = some (.ifCond .ne 15, 3, (0, 0, 0, 0), 0) := rfl
theorem s314_893 {c : Nat → List AV → SS → Option Out} {l0 l1 l2 l3 l4 l5 l6 l7 : Option AV} {x : Int32} {L2 : List (Nat × AV)} {St : List AV} {S : SS} : ev c 314 893 [l0, l1, l2, l3, l4, l5, l6, l7] L2 (aI x :: St) S = if x = 0 then ev c 314 896 [l0, l1, l2, l3, l4, l5, l6, l7] L2 St S else ev c 314 908 [l0, l1, l2, l3, l4, l5, l6, l7] L2 St S := (ev_br i314_893 rfl).trans (ite_not _ _ _)
theorem i314_896 : insAt 314 896 = some (.aload_n 3, 1, (0, 0, 0, 0), 0) := rfl
theorem s314_896 {c : Nat → List AV → SS → Option Out} {l0 l1 l2 l4 l5 l6 l7 : Option AV} {o : OId} {L2 : List (Nat × AV)} {St : List AV} {S : SS} : ev c 314 896 [l0, l1, l2, some (aR o), l4, l5, l6, l7] L2 St S = ev c 314 897 [l0, l1, l2, some (aR o), l4, l5, l6, l7] L2 (aR o :: St) S := ev_go i314_896 rfl
theorem i314_897 : insAt 314 897 = some (.iconst 0, 1, (0, 0, 0, 0), 0) := rfl
theorem s314_897 {c : Nat → List AV → SS → Option Out} {l0 l1 l2 l3 l4 l5 l6 l7 : Option AV} {L2 : List (Nat × AV)} {St : List AV} {S : SS} : ev c 314 897 [l0, l1, l2, l3, l4, l5, l6, l7] L2 St S = ev c 314 898 [l0, l1, l2, l3, l4, l5, l6, l7] L2 (aI 0 :: St) S := ev_go i314_897 rfl
theorem i314_898 : insAt 314 898 = some (.laload, 1, (0, 0, 0, 0), 0) := rfl
theorem s314_898 {c : Nat → List AV → SS → Option Out} {l0 l1 l2 l3 l4 l5 l6 l7 : Option AV} {i : Int32} {o : OId} {L2 : List (Nat × AV)} {St : List AV} {S : SS} : ev c 314 898 [l0, l1, l2, l3, l4, l5, l6, l7] L2 (aI i :: aR o :: St) S = kJ o i (ev c 314 899 [l0, l1, l2, l3, l4, l5, l6, l7] L2 (aL (toL (S.2.1 o i.toNatClampNeg)) :: St) S) := ev_laload i314_898
theorem i314_899 : insAt 314 899 = some (.iload 7, 2, (0, 0, 0, 0), 0) := rfl
theorem s314_899 {c : Nat → List AV → SS → Option Out} {l0 l1 l2 l3 l4 l5 l6 : Option AV} {x : Int32} {L2 : List (Nat × AV)} {St : List AV} {S : SS} : ev c 314 899 [l0, l1, l2, l3, l4, l5, l6, some (aI x)] L2 St S = ev c 314 901 [l0, l1, l2, l3, l4, l5, l6, some (aI x)] L2 (aI x :: St) S := ev_go i314_899 rfl
theorem i314_901 : insAt 314 901 = some (.i2l, 1, (0, 0, 0, 0), 0) := rfl
theorem s314_901 {c : Nat → List AV → SS → Option Out} {l0 l1 l2 l3 l4 l5 l6 l7 : Option AV} {x : Int32} {L2 : List (Nat × AV)} {St : List AV} {S : SS} : ev c 314 901 [l0, l1, l2, l3, l4, l5, l6, l7] L2 (aI x :: St) S = ev c 314 902 [l0, l1, l2, l3, l4, l5, l6, l7] L2 (aL x.toInt64 :: St) S := ev_go i314_901 rfl
theorem i314_902 : insAt 314 902 = some (.lcmp, 1, (0, 0, 0, 0), 0) := rfl
theorem s314_902 {c : Nat → List AV → SS → Option Out} {l0 l1 l2 l3 l4 l5 l6 l7 : Option AV} {x y : Int64} {L2 : List (Nat × AV)} {St : List AV} {S : SS} : ev c 314 902 [l0, l1, l2, l3, l4, l5, l6, l7] L2 (aL y :: aL x :: St) S = ev c 314 903 [l0, l1, l2, l3, l4, l5, l6, l7] L2 (aI (if x < y then -1 else if x = y then 0 else 1) :: St) S := ev_go i314_902 rfl
theorem i314_903 : insAt 314 903 = some (.ifCond .eq 5, 3, (0, 0, 0, 0), 0) := rfl
theorem s314_903 {c : Nat → List AV → SS → Option Out} {l0 l1 l2 l3 l4 l5 l6 l7 : Option AV} {x : Int32} {L2 : List (Nat × AV)} {St : List AV} {S : SS} : ev c 314 903 [l0, l1, l2, l3, l4, l5, l6, l7] L2 (aI x :: St) S = if x = 0 then ev c 314 908 [l0, l1, l2, l3, l4, l5, l6, l7] L2 St S else ev c 314 906 [l0, l1, l2, l3, l4, l5, l6, l7] L2 St S := ev_br i314_903 rfl
theorem i314_906 : insAt 314 906 = some (.iconst 0, 1, (0, 0, 0, 0), 0) := rfl
theorem s314_906 {c : Nat → List AV → SS → Option Out} {l0 l1 l2 l3 l4 l5 l6 l7 : Option AV} {L2 : List (Nat × AV)} {St : List AV} {S : SS} : ev c 314 906 [l0, l1, l2, l3, l4, l5, l6, l7] L2 St S = ev c 314 907 [l0, l1, l2, l3, l4, l5, l6, l7] L2 (aI 0 :: St) S := ev_go i314_906 rfl
theorem i314_907 : insAt 314 907 = some (.ireturn, 1, (0, 0, 0, 0), 0) := rfl
theorem s314_907 {c : Nat → List AV → SS → Option Out} {l0 l1 l2 l3 l4 l5 l6 l7 : Option AV} {x : Int32} {L2 : List (Nat × AV)} {St : List AV} {S : SS} : ev c 314 907 [l0, l1, l2, l3, l4, l5, l6, l7] L2 [aI x] S = if x = 0 ∨ x = 1 then some (.inl (some (aI x)), S) else none := ev_rt i314_907 rfl
theorem i314_908 : insAt 314 908 = some (.goto 1891, 3, (0, 0, 0, 0), 0) := rfl
theorem s314_908 {c : Nat → List AV → SS → Option Out} {l0 l1 l2 l3 l4 l5 l6 l7 : Option AV} {L2 : List (Nat × AV)} {St : List AV} {S : SS} : ev c 314 908 [l0, l1, l2, l3, l4, l5, l6, l7] L2 St S = ev c 314 2799 [l0, l1, l2, l3, l4, l5, l6, l7] L2 St S := ev_go i314_908 rfl
theorem i314_911 : insAt 314 911 = some (.aload_n 1, 1, (0, 0, 0, 0), 0) := rfl
theorem s314_911 {c : Nat → List AV → SS → Option Out} {l0 l2 l3 l4 l5 l6 l7 : Option AV} {o : OId} {L2 : List (Nat × AV)} {St : List AV} {S : SS} : ev c 314 911 [l0, some (aR o), l2, l3, l4, l5, l6, l7] L2 St S = ev c 314 912 [l0, some (aR o), l2, l3, l4, l5, l6, l7] L2 (aR o :: St) S := ev_go i314_911 rfl
theorem i314_912 : insAt 314 912 = some (.aload_n 0, 1, (0, 0, 0, 0), 0) := rfl
theorem s314_912 {c : Nat → List AV → SS → Option Out} {l1 l2 l3 l4 l5 l6 l7 : Option AV} {o : OId} {L2 : List (Nat × AV)} {St : List AV} {S : SS} : ev c 314 912 [some (aR o), l1, l2, l3, l4, l5, l6, l7] L2 St S = ev c 314 913 [some (aR o), l1, l2, l3, l4, l5, l6, l7] L2 (aR o :: St) S := ev_go i314_912 rfl
theorem i314_913 : insAt 314 913 = some (.iload 5, 2, (0, 0, 0, 0), 0) := rfl
theorem s314_913 {c : Nat → List AV → SS → Option Out} {l0 l1 l2 l3 l4 l6 l7 : Option AV} {x : Int32} {L2 : List (Nat × AV)} {St : List AV} {S : SS} : ev c 314 913 [l0, l1, l2, l3, l4, some (aI x), l6, l7] L2 St S = ev c 314 915 [l0, l1, l2, l3, l4, some (aI x), l6, l7] L2 (aI x :: St) S := ev_go i314_913 rfl
theorem i314_915 : insAt 314 915 = some (.iconst 1, 1, (0, 0, 0, 0), 0) := rfl
theorem s314_915 {c : Nat → List AV → SS → Option Out} {l0 l1 l2 l3 l4 l5 l6 l7 : Option AV} {L2 : List (Nat × AV)} {St : List AV} {S : SS} : ev c 314 915 [l0, l1, l2, l3, l4, l5, l6, l7] L2 St S = ev c 314 916 [l0, l1, l2, l3, l4, l5, l6, l7] L2 (aI 1 :: St) S := ev_go i314_915 rfl
theorem i314_916 : insAt 314 916 = some (.iadd, 1, (0, 0, 0, 0), 0) := rfl
theorem s314_916 {c : Nat → List AV → SS → Option Out} {l0 l1 l2 l3 l4 l5 l6 l7 : Option AV} {x y : Int32} {L2 : List (Nat × AV)} {St : List AV} {S : SS} : ev c 314 916 [l0, l1, l2, l3, l4, l5, l6, l7] L2 (aI y :: aI x :: St) S = ev c 314 917 [l0, l1, l2, l3, l4, l5, l6, l7] L2 (aI (x + y) :: St) S := ev_go i314_916 rfl
theorem i314_917 : insAt 314 917 = some (.iaload, 1, (0, 0, 0, 0), 0) := rfl
theorem s314_917 {c : Nat → List AV → SS → Option Out} {l0 l1 l2 l3 l4 l5 l6 l7 : Option AV} {i : Int32} {o : OId} {L2 : List (Nat × AV)} {St : List AV} {S : SS} : ev c 314 917 [l0, l1, l2, l3, l4, l5, l6, l7] L2 (aI i :: aR o :: St) S = kI o i (ev c 314 918 [l0, l1, l2, l3, l4, l5, l6, l7] L2 (aI (agI S o i.toNatClampNeg) :: St) S) := ev_iaload i314_917
theorem i314_918 : insAt 314 918 = some (.aload_n 3, 1, (0, 0, 0, 0), 0) := rfl
theorem s314_918 {c : Nat → List AV → SS → Option Out} {l0 l1 l2 l4 l5 l6 l7 : Option AV} {o : OId} {L2 : List (Nat × AV)} {St : List AV} {S : SS} : ev c 314 918 [l0, l1, l2, some (aR o), l4, l5, l6, l7] L2 St S = ev c 314 919 [l0, l1, l2, some (aR o), l4, l5, l6, l7] L2 (aR o :: St) S := ev_go i314_918 rfl
theorem i314_919 : insAt 314 919 = some (.invokestatic 203, 3, (105, 3, 0, 0), 0) := rfl
theorem s314_919 {c : Nat → List AV → SS → Option Out} {l0 l1 l2 l3 l4 l5 l6 l7 : Option AV} {a0 : OId} {a1 : Int32} {a2 : OId} {L2 : List (Nat × AV)} {S : SS} : ev c 314 919 [l0, l1, l2, l3, l4, l5, l6, l7] L2 [aR a2, aI a1, aR a0] S = ck (c 105 [aR a0, aI a1, aR a2] S) (fun v S' => ev c 314 922 [l0, l1, l2, l3, l4, l5, l6, l7] L2 (v.toList ++ []) S') := ev_call i314_919 rfl
theorem i314_922 : insAt 314 922 = some (.istore 6, 2, (0, 0, 0, 0), 0) := rfl
theorem s314_922 {c : Nat → List AV → SS → Option Out} {l0 l1 l2 l3 l4 l5 l6 l7 : Option AV} {x : Int32} {L2 : List (Nat × AV)} {St : List AV} {S : SS} : ev c 314 922 [l0, l1, l2, l3, l4, l5, l6, l7] L2 (aI x :: St) S = ev c 314 924 [l0, l1, l2, l3, l4, l5, some (aI x), l7] (kil L2 6) St S := ev_go i314_922 rfl
theorem i314_924 : insAt 314 924 = some (.aload_n 2, 1, (0, 0, 0, 0), 0) := rfl
theorem s314_924 {c : Nat → List AV → SS → Option Out} {l0 l1 l3 l4 l5 l6 l7 : Option AV} {o : OId} {L2 : List (Nat × AV)} {St : List AV} {S : SS} : ev c 314 924 [l0, l1, some (aR o), l3, l4, l5, l6, l7] L2 St S = ev c 314 925 [l0, l1, some (aR o), l3, l4, l5, l6, l7] L2 (aR o :: St) S := ev_go i314_924 rfl
theorem i314_925 : insAt 314 925 = some (.aload_n 0, 1, (0, 0, 0, 0), 0) := rfl
theorem s314_925 {c : Nat → List AV → SS → Option Out} {l1 l2 l3 l4 l5 l6 l7 : Option AV} {o : OId} {L2 : List (Nat × AV)} {St : List AV} {S : SS} : ev c 314 925 [some (aR o), l1, l2, l3, l4, l5, l6, l7] L2 St S = ev c 314 926 [some (aR o), l1, l2, l3, l4, l5, l6, l7] L2 (aR o :: St) S := ev_go i314_925 rfl
theorem i314_926 : insAt 314 926 = some (.iload 5, 2, (0, 0, 0, 0), 0) := rfl
theorem s314_926 {c : Nat → List AV → SS → Option Out} {l0 l1 l2 l3 l4 l6 l7 : Option AV} {x : Int32} {L2 : List (Nat × AV)} {St : List AV} {S : SS} : ev c 314 926 [l0, l1, l2, l3, l4, some (aI x), l6, l7] L2 St S = ev c 314 928 [l0, l1, l2, l3, l4, some (aI x), l6, l7] L2 (aI x :: St) S := ev_go i314_926 rfl
theorem i314_928 : insAt 314 928 = some (.iconst 1, 1, (0, 0, 0, 0), 0) := rfl
theorem s314_928 {c : Nat → List AV → SS → Option Out} {l0 l1 l2 l3 l4 l5 l6 l7 : Option AV} {L2 : List (Nat × AV)} {St : List AV} {S : SS} : ev c 314 928 [l0, l1, l2, l3, l4, l5, l6, l7] L2 St S = ev c 314 929 [l0, l1, l2, l3, l4, l5, l6, l7] L2 (aI 1 :: St) S := ev_go i314_928 rfl
theorem i314_929 : insAt 314 929 = some (.iadd, 1, (0, 0, 0, 0), 0) := rfl
theorem s314_929 {c : Nat → List AV → SS → Option Out} {l0 l1 l2 l3 l4 l5 l6 l7 : Option AV} {x y : Int32} {L2 : List (Nat × AV)} {St : List AV} {S : SS} : ev c 314 929 [l0, l1, l2, l3, l4, l5, l6, l7] L2 (aI y :: aI x :: St) S = ev c 314 930 [l0, l1, l2, l3, l4, l5, l6, l7] L2 (aI (x + y) :: St) S := ev_go i314_929 rfl
theorem i314_930 : insAt 314 930 = some (.iaload, 1, (0, 0, 0, 0), 0) := rfl
theorem s314_930 {c : Nat → List AV → SS → Option Out} {l0 l1 l2 l3 l4 l5 l6 l7 : Option AV} {i : Int32} {o : OId} {L2 : List (Nat × AV)} {St : List AV} {S : SS} : ev c 314 930 [l0, l1, l2, l3, l4, l5, l6, l7] L2 (aI i :: aR o :: St) S = kI o i (ev c 314 931 [l0, l1, l2, l3, l4, l5, l6, l7] L2 (aI (agI S o i.toNatClampNeg) :: St) S) := ev_iaload i314_930
theorem i314_931 : insAt 314 931 = some (.invokevirtual 205, 3, (267, 1, 2, 12), 0) := rfl
theorem s314_931 {c : Nat → List AV → SS → Option Out} {l0 l1 l2 l3 l4 l5 l6 l7 : Option AV} {a0 : Int32} {j t : Nat} {L2 : List (Nat × AV)} {S : SS} : ev c 314 931 [l0, l1, l2, l3, l4, l5, l6, l7] L2 [aI a0, aR (12, j, t)] S = ck (c 267 [aR (12, j, t), aI a0] S) (fun v S' => ev c 314 934 [l0, l1, l2, l3, l4, l5, l6, l7] L2 (v.toList ++ []) S') := ev_call i314_931 rfl
theorem i314_934 : insAt 314 934 = some (.istore 7, 2, (0, 0, 0, 0), 0) := rfl
theorem s314_934 {c : Nat → List AV → SS → Option Out} {l0 l1 l2 l3 l4 l5 l6 l7 : Option AV} {x : Int32} {L2 : List (Nat × AV)} {St : List AV} {S : SS} : ev c 314 934 [l0, l1, l2, l3, l4, l5, l6, l7] L2 (aI x :: St) S = ev c 314 936 [l0, l1, l2, l3, l4, l5, l6, some (aI x)] (kil L2 7) St S := ev_go i314_934 rfl
theorem i314_936 : insAt 314 936 = some (.aload_n 2, 1, (0, 0, 0, 0), 0) := rfl
theorem s314_936 {c : Nat → List AV → SS → Option Out} {l0 l1 l3 l4 l5 l6 l7 : Option AV} {o : OId} {L2 : List (Nat × AV)} {St : List AV} {S : SS} : ev c 314 936 [l0, l1, some (aR o), l3, l4, l5, l6, l7] L2 St S = ev c 314 937 [l0, l1, some (aR o), l3, l4, l5, l6, l7] L2 (aR o :: St) S := ev_go i314_936 rfl
theorem i314_937 : insAt 314 937 = some (.invokevirtual 149, 3, (218, 0, 2, 12), 0) := rfl
theorem s314_937 {c : Nat → List AV → SS → Option Out} {l0 l1 l2 l3 l4 l5 l6 l7 : Option AV} {j t : Nat} {L2 : List (Nat × AV)} {S : SS} : ev c 314 937 [l0, l1, l2, l3, l4, l5, l6, l7] L2 [aR (12, j, t)] S = ck (c 218 [aR (12, j, t)] S) (fun v S' => ev c 314 940 [l0, l1, l2, l3, l4, l5, l6, l7] L2 (v.toList ++ []) S') := ev_call i314_937 rfl
theorem i314_940 : insAt 314 940 = some (.iload 6, 2, (0, 0, 0, 0), 0) := rfl
theorem s314_940 {c : Nat → List AV → SS → Option Out} {l0 l1 l2 l3 l4 l5 l7 : Option AV} {x : Int32} {L2 : List (Nat × AV)} {St : List AV} {S : SS} : ev c 314 940 [l0, l1, l2, l3, l4, l5, some (aI x), l7] L2 St S = ev c 314 942 [l0, l1, l2, l3, l4, l5, some (aI x), l7] L2 (aI x :: St) S := ev_go i314_940 rfl
theorem i314_942 : insAt 314 942 = some (.if_icmp .eq 5, 3, (0, 0, 0, 0), 0) := rfl
theorem s314_942 {c : Nat → List AV → SS → Option Out} {l0 l1 l2 l3 l4 l5 l6 l7 : Option AV} {x y : Int32} {L2 : List (Nat × AV)} {St : List AV} {S : SS} : ev c 314 942 [l0, l1, l2, l3, l4, l5, l6, l7] L2 (aI y :: aI x :: St) S = if x = y then ev c 314 947 [l0, l1, l2, l3, l4, l5, l6, l7] L2 St S else ev c 314 945 [l0, l1, l2, l3, l4, l5, l6, l7] L2 St S := ev_br i314_942 rfl
theorem i314_945 : insAt 314 945 = some (.iconst 0, 1, (0, 0, 0, 0), 0) := rfl
theorem s314_945 {c : Nat → List AV → SS → Option Out} {l0 l1 l2 l3 l4 l5 l6 l7 : Option AV} {L2 : List (Nat × AV)} {St : List AV} {S : SS} : ev c 314 945 [l0, l1, l2, l3, l4, l5, l6, l7] L2 St S = ev c 314 946 [l0, l1, l2, l3, l4, l5, l6, l7] L2 (aI 0 :: St) S := ev_go i314_945 rfl
theorem i314_946 : insAt 314 946 = some (.ireturn, 1, (0, 0, 0, 0), 0) := rfl
theorem s314_946 {c : Nat → List AV → SS → Option Out} {l0 l1 l2 l3 l4 l5 l6 l7 : Option AV} {x : Int32} {L2 : List (Nat × AV)} {St : List AV} {S : SS} : ev c 314 946 [l0, l1, l2, l3, l4, l5, l6, l7] L2 [aI x] S = if x = 0 ∨ x = 1 then some (.inl (some (aI x)), S) else none := ev_rt i314_946 rfl
theorem i314_947 : insAt 314 947 = some (.iload 6, 2, (0, 0, 0, 0), 0) := rfl
theorem s314_947 {c : Nat → List AV → SS → Option Out} {l0 l1 l2 l3 l4 l5 l7 : Option AV} {x : Int32} {L2 : List (Nat × AV)} {St : List AV} {S : SS} : ev c 314 947 [l0, l1, l2, l3, l4, l5, some (aI x), l7] L2 St S = ev c 314 949 [l0, l1, l2, l3, l4, l5, some (aI x), l7] L2 (aI x :: St) S := ev_go i314_947 rfl
theorem i314_949 : insAt 314 949 = some (.ifCond .ne 15, 3, (0, 0, 0, 0), 0) := rfl
theorem s314_949 {c : Nat → List AV → SS → Option Out} {l0 l1 l2 l3 l4 l5 l6 l7 : Option AV} {x : Int32} {L2 : List (Nat × AV)} {St : List AV} {S : SS} : ev c 314 949 [l0, l1, l2, l3, l4, l5, l6, l7] L2 (aI x :: St) S = if x = 0 then ev c 314 952 [l0, l1, l2, l3, l4, l5, l6, l7] L2 St S else ev c 314 964 [l0, l1, l2, l3, l4, l5, l6, l7] L2 St S := (ev_br i314_949 rfl).trans (ite_not _ _ _)
theorem i314_952 : insAt 314 952 = some (.aload_n 3, 1, (0, 0, 0, 0), 0) := rfl
theorem s314_952 {c : Nat → List AV → SS → Option Out} {l0 l1 l2 l4 l5 l6 l7 : Option AV} {o : OId} {L2 : List (Nat × AV)} {St : List AV} {S : SS} : ev c 314 952 [l0, l1, l2, some (aR o), l4, l5, l6, l7] L2 St S = ev c 314 953 [l0, l1, l2, some (aR o), l4, l5, l6, l7] L2 (aR o :: St) S := ev_go i314_952 rfl
theorem i314_953 : insAt 314 953 = some (.iconst 0, 1, (0, 0, 0, 0), 0) := rfl
theorem s314_953 {c : Nat → List AV → SS → Option Out} {l0 l1 l2 l3 l4 l5 l6 l7 : Option AV} {L2 : List (Nat × AV)} {St : List AV} {S : SS} : ev c 314 953 [l0, l1, l2, l3, l4, l5, l6, l7] L2 St S = ev c 314 954 [l0, l1, l2, l3, l4, l5, l6, l7] L2 (aI 0 :: St) S := ev_go i314_953 rfl
theorem i314_954 : insAt 314 954 = some (.laload, 1, (0, 0, 0, 0), 0) := rfl
theorem s314_954 {c : Nat → List AV → SS → Option Out} {l0 l1 l2 l3 l4 l5 l6 l7 : Option AV} {i : Int32} {o : OId} {L2 : List (Nat × AV)} {St : List AV} {S : SS} : ev c 314 954 [l0, l1, l2, l3, l4, l5, l6, l7] L2 (aI i :: aR o :: St) S = kJ o i (ev c 314 955 [l0, l1, l2, l3, l4, l5, l6, l7] L2 (aL (toL (S.2.1 o i.toNatClampNeg)) :: St) S) := ev_laload i314_954
theorem i314_955 : insAt 314 955 = some (.iload 7, 2, (0, 0, 0, 0), 0) := rfl
theorem s314_955 {c : Nat → List AV → SS → Option Out} {l0 l1 l2 l3 l4 l5 l6 : Option AV} {x : Int32} {L2 : List (Nat × AV)} {St : List AV} {S : SS} : ev c 314 955 [l0, l1, l2, l3, l4, l5, l6, some (aI x)] L2 St S = ev c 314 957 [l0, l1, l2, l3, l4, l5, l6, some (aI x)] L2 (aI x :: St) S := ev_go i314_955 rfl
theorem i314_957 : insAt 314 957 = some (.i2l, 1, (0, 0, 0, 0), 0) := rfl
theorem s314_957 {c : Nat → List AV → SS → Option Out} {l0 l1 l2 l3 l4 l5 l6 l7 : Option AV} {x : Int32} {L2 : List (Nat × AV)} {St : List AV} {S : SS} : ev c 314 957 [l0, l1, l2, l3, l4, l5, l6, l7] L2 (aI x :: St) S = ev c 314 958 [l0, l1, l2, l3, l4, l5, l6, l7] L2 (aL x.toInt64 :: St) S := ev_go i314_957 rfl
theorem i314_958 : insAt 314 958 = some (.lcmp, 1, (0, 0, 0, 0), 0) := rfl
theorem s314_958 {c : Nat → List AV → SS → Option Out} {l0 l1 l2 l3 l4 l5 l6 l7 : Option AV} {x y : Int64} {L2 : List (Nat × AV)} {St : List AV} {S : SS} : ev c 314 958 [l0, l1, l2, l3, l4, l5, l6, l7] L2 (aL y :: aL x :: St) S = ev c 314 959 [l0, l1, l2, l3, l4, l5, l6, l7] L2 (aI (if x < y then -1 else if x = y then 0 else 1) :: St) S := ev_go i314_958 rfl
theorem i314_959 : insAt 314 959 = some (.ifCond .eq 5, 3, (0, 0, 0, 0), 0) := rfl
theorem s314_959 {c : Nat → List AV → SS → Option Out} {l0 l1 l2 l3 l4 l5 l6 l7 : Option AV} {x : Int32} {L2 : List (Nat × AV)} {St : List AV} {S : SS} : ev c 314 959 [l0, l1, l2, l3, l4, l5, l6, l7] L2 (aI x :: St) S = if x = 0 then ev c 314 964 [l0, l1, l2, l3, l4, l5, l6, l7] L2 St S else ev c 314 962 [l0, l1, l2, l3, l4, l5, l6, l7] L2 St S := ev_br i314_959 rfl
theorem i314_962 : insAt 314 962 = some (.iconst 0, 1, (0, 0, 0, 0), 0) := rfl
theorem s314_962 {c : Nat → List AV → SS → Option Out} {l0 l1 l2 l3 l4 l5 l6 l7 : Option AV} {L2 : List (Nat × AV)} {St : List AV} {S : SS} : ev c 314 962 [l0, l1, l2, l3, l4, l5, l6, l7] L2 St S = ev c 314 963 [l0, l1, l2, l3, l4, l5, l6, l7] L2 (aI 0 :: St) S := ev_go i314_962 rfl
theorem i314_963 : insAt 314 963 = some (.ireturn, 1, (0, 0, 0, 0), 0) := rfl
theorem s314_963 {c : Nat → List AV → SS → Option Out} {l0 l1 l2 l3 l4 l5 l6 l7 : Option AV} {x : Int32} {L2 : List (Nat × AV)} {St : List AV} {S : SS} : ev c 314 963 [l0, l1, l2, l3, l4, l5, l6, l7] L2 [aI x] S = if x = 0 ∨ x = 1 then some (.inl (some (aI x)), S) else none := ev_rt i314_963 rfl
theorem i314_964 : insAt 314 964 = some (.goto 1835, 3, (0, 0, 0, 0), 0) := rfl
theorem s314_964 {c : Nat → List AV → SS → Option Out} {l0 l1 l2 l3 l4 l5 l6 l7 : Option AV} {L2 : List (Nat × AV)} {St : List AV} {S : SS} : ev c 314 964 [l0, l1, l2, l3, l4, l5, l6, l7] L2 St S = ev c 314 2799 [l0, l1, l2, l3, l4, l5, l6, l7] L2 St S := ev_go i314_964 rfl
theorem i314_967 : insAt 314 967 = some (.aload_n 1, 1, (0, 0, 0, 0), 0) := rfl
theorem s314_967 {c : Nat → List AV → SS → Option Out} {l0 l2 l3 l4 l5 l6 l7 : Option AV} {o : OId} {L2 : List (Nat × AV)} {St : List AV} {S : SS} : ev c 314 967 [l0, some (aR o), l2, l3, l4, l5, l6, l7] L2 St S = ev c 314 968 [l0, some (aR o), l2, l3, l4, l5, l6, l7] L2 (aR o :: St) S := ev_go i314_967 rfl
theorem i314_968 : insAt 314 968 = some (.aload_n 0, 1, (0, 0, 0, 0), 0) := rfl
theorem s314_968 {c : Nat → List AV → SS → Option Out} {l1 l2 l3 l4 l5 l6 l7 : Option AV} {o : OId} {L2 : List (Nat × AV)} {St : List AV} {S : SS} : ev c 314 968 [some (aR o), l1, l2, l3, l4, l5, l6, l7] L2 St S = ev c 314 969 [some (aR o), l1, l2, l3, l4, l5, l6, l7] L2 (aR o :: St) S := ev_go i314_968 rfl
theorem i314_969 : insAt 314 969 = some (.iload 5, 2, (0, 0, 0, 0), 0) := rfl
theorem s314_969 {c : Nat → List AV → SS → Option Out} {l0 l1 l2 l3 l4 l6 l7 : Option AV} {x : Int32} {L2 : List (Nat × AV)} {St : List AV} {S : SS} : ev c 314 969 [l0, l1, l2, l3, l4, some (aI x), l6, l7] L2 St S = ev c 314 971 [l0, l1, l2, l3, l4, some (aI x), l6, l7] L2 (aI x :: St) S := ev_go i314_969 rfl
theorem i314_971 : insAt 314 971 = some (.iconst 1, 1, (0, 0, 0, 0), 0) := rfl
theorem s314_971 {c : Nat → List AV → SS → Option Out} {l0 l1 l2 l3 l4 l5 l6 l7 : Option AV} {L2 : List (Nat × AV)} {St : List AV} {S : SS} : ev c 314 971 [l0, l1, l2, l3, l4, l5, l6, l7] L2 St S = ev c 314 972 [l0, l1, l2, l3, l4, l5, l6, l7] L2 (aI 1 :: St) S := ev_go i314_971 rfl
theorem i314_972 : insAt 314 972 = some (.iadd, 1, (0, 0, 0, 0), 0) := rfl
theorem s314_972 {c : Nat → List AV → SS → Option Out} {l0 l1 l2 l3 l4 l5 l6 l7 : Option AV} {x y : Int32} {L2 : List (Nat × AV)} {St : List AV} {S : SS} : ev c 314 972 [l0, l1, l2, l3, l4, l5, l6, l7] L2 (aI y :: aI x :: St) S = ev c 314 973 [l0, l1, l2, l3, l4, l5, l6, l7] L2 (aI (x + y) :: St) S := ev_go i314_972 rfl
theorem i314_973 : insAt 314 973 = some (.iaload, 1, (0, 0, 0, 0), 0) := rfl
theorem s314_973 {c : Nat → List AV → SS → Option Out} {l0 l1 l2 l3 l4 l5 l6 l7 : Option AV} {i : Int32} {o : OId} {L2 : List (Nat × AV)} {St : List AV} {S : SS} : ev c 314 973 [l0, l1, l2, l3, l4, l5, l6, l7] L2 (aI i :: aR o :: St) S = kI o i (ev c 314 974 [l0, l1, l2, l3, l4, l5, l6, l7] L2 (aI (agI S o i.toNatClampNeg) :: St) S) := ev_iaload i314_973
theorem i314_974 : insAt 314 974 = some (.aload_n 3, 1, (0, 0, 0, 0), 0) := rfl
theorem s314_974 {c : Nat → List AV → SS → Option Out} {l0 l1 l2 l4 l5 l6 l7 : Option AV} {o : OId} {L2 : List (Nat × AV)} {St : List AV} {S : SS} : ev c 314 974 [l0, l1, l2, some (aR o), l4, l5, l6, l7] L2 St S = ev c 314 975 [l0, l1, l2, some (aR o), l4, l5, l6, l7] L2 (aR o :: St) S := ev_go i314_974 rfl
theorem i314_975 : insAt 314 975 = some (.invokestatic 206, 3, (109, 3, 0, 0), 0) := rfl
theorem s314_975 {c : Nat → List AV → SS → Option Out} {l0 l1 l2 l3 l4 l5 l6 l7 : Option AV} {a0 : OId} {a1 : Int32} {a2 : OId} {L2 : List (Nat × AV)} {S : SS} : ev c 314 975 [l0, l1, l2, l3, l4, l5, l6, l7] L2 [aR a2, aI a1, aR a0] S = ck (c 109 [aR a0, aI a1, aR a2] S) (fun v S' => ev c 314 978 [l0, l1, l2, l3, l4, l5, l6, l7] L2 (v.toList ++ []) S') := ev_call i314_975 rfl
theorem i314_978 : insAt 314 978 = some (.istore 6, 2, (0, 0, 0, 0), 0) := rfl
theorem s314_978 {c : Nat → List AV → SS → Option Out} {l0 l1 l2 l3 l4 l5 l6 l7 : Option AV} {x : Int32} {L2 : List (Nat × AV)} {St : List AV} {S : SS} : ev c 314 978 [l0, l1, l2, l3, l4, l5, l6, l7] L2 (aI x :: St) S = ev c 314 980 [l0, l1, l2, l3, l4, l5, some (aI x), l7] (kil L2 6) St S := ev_go i314_978 rfl
theorem i314_980 : insAt 314 980 = some (.aload_n 2, 1, (0, 0, 0, 0), 0) := rfl
theorem s314_980 {c : Nat → List AV → SS → Option Out} {l0 l1 l3 l4 l5 l6 l7 : Option AV} {o : OId} {L2 : List (Nat × AV)} {St : List AV} {S : SS} : ev c 314 980 [l0, l1, some (aR o), l3, l4, l5, l6, l7] L2 St S = ev c 314 981 [l0, l1, some (aR o), l3, l4, l5, l6, l7] L2 (aR o :: St) S := ev_go i314_980 rfl
theorem i314_981 : insAt 314 981 = some (.aload_n 0, 1, (0, 0, 0, 0), 0) := rfl
theorem s314_981 {c : Nat → List AV → SS → Option Out} {l1 l2 l3 l4 l5 l6 l7 : Option AV} {o : OId} {L2 : List (Nat × AV)} {St : List AV} {S : SS} : ev c 314 981 [some (aR o), l1, l2, l3, l4, l5, l6, l7] L2 St S = ev c 314 982 [some (aR o), l1, l2, l3, l4, l5, l6, l7] L2 (aR o :: St) S := ev_go i314_981 rfl
theorem i314_982 : insAt 314 982 = some (.iload 5, 2, (0, 0, 0, 0), 0) := rfl
theorem s314_982 {c : Nat → List AV → SS → Option Out} {l0 l1 l2 l3 l4 l6 l7 : Option AV} {x : Int32} {L2 : List (Nat × AV)} {St : List AV} {S : SS} : ev c 314 982 [l0, l1, l2, l3, l4, some (aI x), l6, l7] L2 St S = ev c 314 984 [l0, l1, l2, l3, l4, some (aI x), l6, l7] L2 (aI x :: St) S := ev_go i314_982 rfl
theorem i314_984 : insAt 314 984 = some (.iconst 1, 1, (0, 0, 0, 0), 0) := rfl
theorem s314_984 {c : Nat → List AV → SS → Option Out} {l0 l1 l2 l3 l4 l5 l6 l7 : Option AV} {L2 : List (Nat × AV)} {St : List AV} {S : SS} : ev c 314 984 [l0, l1, l2, l3, l4, l5, l6, l7] L2 St S = ev c 314 985 [l0, l1, l2, l3, l4, l5, l6, l7] L2 (aI 1 :: St) S := ev_go i314_984 rfl
theorem i314_985 : insAt 314 985 = some (.iadd, 1, (0, 0, 0, 0), 0) := rfl
theorem s314_985 {c : Nat → List AV → SS → Option Out} {l0 l1 l2 l3 l4 l5 l6 l7 : Option AV} {x y : Int32} {L2 : List (Nat × AV)} {St : List AV} {S : SS} : ev c 314 985 [l0, l1, l2, l3, l4, l5, l6, l7] L2 (aI y :: aI x :: St) S = ev c 314 986 [l0, l1, l2, l3, l4, l5, l6, l7] L2 (aI (x + y) :: St) S := ev_go i314_985 rfl
theorem i314_986 : insAt 314 986 = some (.iaload, 1, (0, 0, 0, 0), 0) := rfl
theorem s314_986 {c : Nat → List AV → SS → Option Out} {l0 l1 l2 l3 l4 l5 l6 l7 : Option AV} {i : Int32} {o : OId} {L2 : List (Nat × AV)} {St : List AV} {S : SS} : ev c 314 986 [l0, l1, l2, l3, l4, l5, l6, l7] L2 (aI i :: aR o :: St) S = kI o i (ev c 314 987 [l0, l1, l2, l3, l4, l5, l6, l7] L2 (aI (agI S o i.toNatClampNeg) :: St) S) := ev_iaload i314_986
theorem i314_987 : insAt 314 987 = some (.invokevirtual 208, 3, (269, 1, 2, 12), 0) := rfl
theorem s314_987 {c : Nat → List AV → SS → Option Out} {l0 l1 l2 l3 l4 l5 l6 l7 : Option AV} {a0 : Int32} {j t : Nat} {L2 : List (Nat × AV)} {S : SS} : ev c 314 987 [l0, l1, l2, l3, l4, l5, l6, l7] L2 [aI a0, aR (12, j, t)] S = ck (c 269 [aR (12, j, t), aI a0] S) (fun v S' => ev c 314 990 [l0, l1, l2, l3, l4, l5, l6, l7] L2 (v.toList ++ []) S') := ev_call i314_987 rfl
theorem i314_990 : insAt 314 990 = some (.istore 7, 2, (0, 0, 0, 0), 0) := rfl
theorem s314_990 {c : Nat → List AV → SS → Option Out} {l0 l1 l2 l3 l4 l5 l6 l7 : Option AV} {x : Int32} {L2 : List (Nat × AV)} {St : List AV} {S : SS} : ev c 314 990 [l0, l1, l2, l3, l4, l5, l6, l7] L2 (aI x :: St) S = ev c 314 992 [l0, l1, l2, l3, l4, l5, l6, some (aI x)] (kil L2 7) St S := ev_go i314_990 rfl
theorem i314_992 : insAt 314 992 = some (.aload_n 2, 1, (0, 0, 0, 0), 0) := rfl
theorem s314_992 {c : Nat → List AV → SS → Option Out} {l0 l1 l3 l4 l5 l6 l7 : Option AV} {o : OId} {L2 : List (Nat × AV)} {St : List AV} {S : SS} : ev c 314 992 [l0, l1, some (aR o), l3, l4, l5, l6, l7] L2 St S = ev c 314 993 [l0, l1, some (aR o), l3, l4, l5, l6, l7] L2 (aR o :: St) S := ev_go i314_992 rfl
theorem i314_993 : insAt 314 993 = some (.invokevirtual 149, 3, (218, 0, 2, 12), 0) := rfl
theorem s314_993 {c : Nat → List AV → SS → Option Out} {l0 l1 l2 l3 l4 l5 l6 l7 : Option AV} {j t : Nat} {L2 : List (Nat × AV)} {S : SS} : ev c 314 993 [l0, l1, l2, l3, l4, l5, l6, l7] L2 [aR (12, j, t)] S = ck (c 218 [aR (12, j, t)] S) (fun v S' => ev c 314 996 [l0, l1, l2, l3, l4, l5, l6, l7] L2 (v.toList ++ []) S') := ev_call i314_993 rfl
theorem i314_996 : insAt 314 996 = some (.iload 6, 2, (0, 0, 0, 0), 0) := rfl
theorem s314_996 {c : Nat → List AV → SS → Option Out} {l0 l1 l2 l3 l4 l5 l7 : Option AV} {x : Int32} {L2 : List (Nat × AV)} {St : List AV} {S : SS} : ev c 314 996 [l0, l1, l2, l3, l4, l5, some (aI x), l7] L2 St S = ev c 314 998 [l0, l1, l2, l3, l4, l5, some (aI x), l7] L2 (aI x :: St) S := ev_go i314_996 rfl
theorem i314_998 : insAt 314 998 = some (.if_icmp .eq 5, 3, (0, 0, 0, 0), 0) := rfl
theorem s314_998 {c : Nat → List AV → SS → Option Out} {l0 l1 l2 l3 l4 l5 l6 l7 : Option AV} {x y : Int32} {L2 : List (Nat × AV)} {St : List AV} {S : SS} : ev c 314 998 [l0, l1, l2, l3, l4, l5, l6, l7] L2 (aI y :: aI x :: St) S = if x = y then ev c 314 1003 [l0, l1, l2, l3, l4, l5, l6, l7] L2 St S else ev c 314 1001 [l0, l1, l2, l3, l4, l5, l6, l7] L2 St S := ev_br i314_998 rfl
theorem i314_1001 : insAt 314 1001 = some (.iconst 0, 1, (0, 0, 0, 0), 0) := rfl
theorem s314_1001 {c : Nat → List AV → SS → Option Out} {l0 l1 l2 l3 l4 l5 l6 l7 : Option AV} {L2 : List (Nat × AV)} {St : List AV} {S : SS} : ev c 314 1001 [l0, l1, l2, l3, l4, l5, l6, l7] L2 St S = ev c 314 1002 [l0, l1, l2, l3, l4, l5, l6, l7] L2 (aI 0 :: St) S := ev_go i314_1001 rfl
theorem i314_1002 : insAt 314 1002 = some (.ireturn, 1, (0, 0, 0, 0), 0) := rfl
theorem s314_1002 {c : Nat → List AV → SS → Option Out} {l0 l1 l2 l3 l4 l5 l6 l7 : Option AV} {x : Int32} {L2 : List (Nat × AV)} {St : List AV} {S : SS} : ev c 314 1002 [l0, l1, l2, l3, l4, l5, l6, l7] L2 [aI x] S = if x = 0 ∨ x = 1 then some (.inl (some (aI x)), S) else none := ev_rt i314_1002 rfl
theorem i314_1003 : insAt 314 1003 = some (.iload 6, 2, (0, 0, 0, 0), 0) := rfl
theorem s314_1003 {c : Nat → List AV → SS → Option Out} {l0 l1 l2 l3 l4 l5 l7 : Option AV} {x : Int32} {L2 : List (Nat × AV)} {St : List AV} {S : SS} : ev c 314 1003 [l0, l1, l2, l3, l4, l5, some (aI x), l7] L2 St S = ev c 314 1005 [l0, l1, l2, l3, l4, l5, some (aI x), l7] L2 (aI x :: St) S := ev_go i314_1003 rfl
theorem i314_1005 : insAt 314 1005 = some (.ifCond .ne 15, 3, (0, 0, 0, 0), 0) := rfl
theorem s314_1005 {c : Nat → List AV → SS → Option Out} {l0 l1 l2 l3 l4 l5 l6 l7 : Option AV} {x : Int32} {L2 : List (Nat × AV)} {St : List AV} {S : SS} : ev c 314 1005 [l0, l1, l2, l3, l4, l5, l6, l7] L2 (aI x :: St) S = if x = 0 then ev c 314 1008 [l0, l1, l2, l3, l4, l5, l6, l7] L2 St S else ev c 314 1020 [l0, l1, l2, l3, l4, l5, l6, l7] L2 St S := (ev_br i314_1005 rfl).trans (ite_not _ _ _)
theorem i314_1008 : insAt 314 1008 = some (.aload_n 3, 1, (0, 0, 0, 0), 0) := rfl
theorem s314_1008 {c : Nat → List AV → SS → Option Out} {l0 l1 l2 l4 l5 l6 l7 : Option AV} {o : OId} {L2 : List (Nat × AV)} {St : List AV} {S : SS} : ev c 314 1008 [l0, l1, l2, some (aR o), l4, l5, l6, l7] L2 St S = ev c 314 1009 [l0, l1, l2, some (aR o), l4, l5, l6, l7] L2 (aR o :: St) S := ev_go i314_1008 rfl
theorem i314_1009 : insAt 314 1009 = some (.iconst 0, 1, (0, 0, 0, 0), 0) := rfl
theorem s314_1009 {c : Nat → List AV → SS → Option Out} {l0 l1 l2 l3 l4 l5 l6 l7 : Option AV} {L2 : List (Nat × AV)} {St : List AV} {S : SS} : ev c 314 1009 [l0, l1, l2, l3, l4, l5, l6, l7] L2 St S = ev c 314 1010 [l0, l1, l2, l3, l4, l5, l6, l7] L2 (aI 0 :: St) S := ev_go i314_1009 rfl
theorem i314_1010 : insAt 314 1010 = some (.laload, 1, (0, 0, 0, 0), 0) := rfl
theorem s314_1010 {c : Nat → List AV → SS → Option Out} {l0 l1 l2 l3 l4 l5 l6 l7 : Option AV} {i : Int32} {o : OId} {L2 : List (Nat × AV)} {St : List AV} {S : SS} : ev c 314 1010 [l0, l1, l2, l3, l4, l5, l6, l7] L2 (aI i :: aR o :: St) S = kJ o i (ev c 314 1011 [l0, l1, l2, l3, l4, l5, l6, l7] L2 (aL (toL (S.2.1 o i.toNatClampNeg)) :: St) S) := ev_laload i314_1010
theorem i314_1011 : insAt 314 1011 = some (.iload 7, 2, (0, 0, 0, 0), 0) := rfl
theorem s314_1011 {c : Nat → List AV → SS → Option Out} {l0 l1 l2 l3 l4 l5 l6 : Option AV} {x : Int32} {L2 : List (Nat × AV)} {St : List AV} {S : SS} : ev c 314 1011 [l0, l1, l2, l3, l4, l5, l6, some (aI x)] L2 St S = ev c 314 1013 [l0, l1, l2, l3, l4, l5, l6, some (aI x)] L2 (aI x :: St) S := ev_go i314_1011 rfl
theorem i314_1013 : insAt 314 1013 = some (.i2l, 1, (0, 0, 0, 0), 0) := rfl
theorem s314_1013 {c : Nat → List AV → SS → Option Out} {l0 l1 l2 l3 l4 l5 l6 l7 : Option AV} {x : Int32} {L2 : List (Nat × AV)} {St : List AV} {S : SS} : ev c 314 1013 [l0, l1, l2, l3, l4, l5, l6, l7] L2 (aI x :: St) S = ev c 314 1014 [l0, l1, l2, l3, l4, l5, l6, l7] L2 (aL x.toInt64 :: St) S := ev_go i314_1013 rfl
theorem i314_1014 : insAt 314 1014 = some (.lcmp, 1, (0, 0, 0, 0), 0) := rfl
theorem s314_1014 {c : Nat → List AV → SS → Option Out} {l0 l1 l2 l3 l4 l5 l6 l7 : Option AV} {x y : Int64} {L2 : List (Nat × AV)} {St : List AV} {S : SS} : ev c 314 1014 [l0, l1, l2, l3, l4, l5, l6, l7] L2 (aL y :: aL x :: St) S = ev c 314 1015 [l0, l1, l2, l3, l4, l5, l6, l7] L2 (aI (if x < y then -1 else if x = y then 0 else 1) :: St) S := ev_go i314_1014 rfl
theorem i314_1015 : insAt 314 1015 = some (.ifCond .eq 5, 3, (0, 0, 0, 0), 0) := rfl
theorem s314_1015 {c : Nat → List AV → SS → Option Out} {l0 l1 l2 l3 l4 l5 l6 l7 : Option AV} {x : Int32} {L2 : List (Nat × AV)} {St : List AV} {S : SS} : ev c 314 1015 [l0, l1, l2, l3, l4, l5, l6, l7] L2 (aI x :: St) S = if x = 0 then ev c 314 1020 [l0, l1, l2, l3, l4, l5, l6, l7] L2 St S else ev c 314 1018 [l0, l1, l2, l3, l4, l5, l6, l7] L2 St S := ev_br i314_1015 rfl
theorem i314_1018 : insAt 314 1018 = some (.iconst 0, 1, (0, 0, 0, 0), 0) := rfl
theorem s314_1018 {c : Nat → List AV → SS → Option Out} {l0 l1 l2 l3 l4 l5 l6 l7 : Option AV} {L2 : List (Nat × AV)} {St : List AV} {S : SS} : ev c 314 1018 [l0, l1, l2, l3, l4, l5, l6, l7] L2 St S = ev c 314 1019 [l0, l1, l2, l3, l4, l5, l6, l7] L2 (aI 0 :: St) S := ev_go i314_1018 rfl
theorem i314_1019 : insAt 314 1019 = some (.ireturn, 1, (0, 0, 0, 0), 0) := rfl
theorem s314_1019 {c : Nat → List AV → SS → Option Out} {l0 l1 l2 l3 l4 l5 l6 l7 : Option AV} {x : Int32} {L2 : List (Nat × AV)} {St : List AV} {S : SS} : ev c 314 1019 [l0, l1, l2, l3, l4, l5, l6, l7] L2 [aI x] S = if x = 0 ∨ x = 1 then some (.inl (some (aI x)), S) else none := ev_rt i314_1019 rfl
theorem i314_1020 : insAt 314 1020 = some (.goto 1779, 3, (0, 0, 0, 0), 0) := rfl
theorem s314_1020 {c : Nat → List AV → SS → Option Out} {l0 l1 l2 l3 l4 l5 l6 l7 : Option AV} {L2 : List (Nat × AV)} {St : List AV} {S : SS} : ev c 314 1020 [l0, l1, l2, l3, l4, l5, l6, l7] L2 St S = ev c 314 2799 [l0, l1, l2, l3, l4, l5, l6, l7] L2 St S := ev_go i314_1020 rfl
theorem i314_1023 : insAt 314 1023 = some (.aload_n 1, 1, (0, 0, 0, 0), 0) := rfl
theorem s314_1023 {c : Nat → List AV → SS → Option Out} {l0 l2 l3 l4 l5 l6 l7 : Option AV} {o : OId} {L2 : List (Nat × AV)} {St : List AV} {S : SS} : ev c 314 1023 [l0, some (aR o), l2, l3, l4, l5, l6, l7] L2 St S = ev c 314 1024 [l0, some (aR o), l2, l3, l4, l5, l6, l7] L2 (aR o :: St) S := ev_go i314_1023 rfl
theorem i314_1024 : insAt 314 1024 = some (.aload_n 0, 1, (0, 0, 0, 0), 0) := rfl
theorem s314_1024 {c : Nat → List AV → SS → Option Out} {l1 l2 l3 l4 l5 l6 l7 : Option AV} {o : OId} {L2 : List (Nat × AV)} {St : List AV} {S : SS} : ev c 314 1024 [some (aR o), l1, l2, l3, l4, l5, l6, l7] L2 St S = ev c 314 1025 [some (aR o), l1, l2, l3, l4, l5, l6, l7] L2 (aR o :: St) S := ev_go i314_1024 rfl
theorem i314_1025 : insAt 314 1025 = some (.iload 5, 2, (0, 0, 0, 0), 0) := rfl
theorem s314_1025 {c : Nat → List AV → SS → Option Out} {l0 l1 l2 l3 l4 l6 l7 : Option AV} {x : Int32} {L2 : List (Nat × AV)} {St : List AV} {S : SS} : ev c 314 1025 [l0, l1, l2, l3, l4, some (aI x), l6, l7] L2 St S = ev c 314 1027 [l0, l1, l2, l3, l4, some (aI x), l6, l7] L2 (aI x :: St) S := ev_go i314_1025 rfl
theorem i314_1027 : insAt 314 1027 = some (.iconst 1, 1, (0, 0, 0, 0), 0) := rfl
theorem s314_1027 {c : Nat → List AV → SS → Option Out} {l0 l1 l2 l3 l4 l5 l6 l7 : Option AV} {L2 : List (Nat × AV)} {St : List AV} {S : SS} : ev c 314 1027 [l0, l1, l2, l3, l4, l5, l6, l7] L2 St S = ev c 314 1028 [l0, l1, l2, l3, l4, l5, l6, l7] L2 (aI 1 :: St) S := ev_go i314_1027 rfl
theorem i314_1028 : insAt 314 1028 = some (.iadd, 1, (0, 0, 0, 0), 0) := rfl
theorem s314_1028 {c : Nat → List AV → SS → Option Out} {l0 l1 l2 l3 l4 l5 l6 l7 : Option AV} {x y : Int32} {L2 : List (Nat × AV)} {St : List AV} {S : SS} : ev c 314 1028 [l0, l1, l2, l3, l4, l5, l6, l7] L2 (aI y :: aI x :: St) S = ev c 314 1029 [l0, l1, l2, l3, l4, l5, l6, l7] L2 (aI (x + y) :: St) S := ev_go i314_1028 rfl
theorem i314_1029 : insAt 314 1029 = some (.iaload, 1, (0, 0, 0, 0), 0) := rfl
theorem s314_1029 {c : Nat → List AV → SS → Option Out} {l0 l1 l2 l3 l4 l5 l6 l7 : Option AV} {i : Int32} {o : OId} {L2 : List (Nat × AV)} {St : List AV} {S : SS} : ev c 314 1029 [l0, l1, l2, l3, l4, l5, l6, l7] L2 (aI i :: aR o :: St) S = kI o i (ev c 314 1030 [l0, l1, l2, l3, l4, l5, l6, l7] L2 (aI (agI S o i.toNatClampNeg) :: St) S) := ev_iaload i314_1029
theorem i314_1030 : insAt 314 1030 = some (.aload_n 3, 1, (0, 0, 0, 0), 0) := rfl
theorem s314_1030 {c : Nat → List AV → SS → Option Out} {l0 l1 l2 l4 l5 l6 l7 : Option AV} {o : OId} {L2 : List (Nat × AV)} {St : List AV} {S : SS} : ev c 314 1030 [l0, l1, l2, some (aR o), l4, l5, l6, l7] L2 St S = ev c 314 1031 [l0, l1, l2, some (aR o), l4, l5, l6, l7] L2 (aR o :: St) S := ev_go i314_1030 rfl
theorem i314_1031 : insAt 314 1031 = some (.invokestatic 209, 3, (111, 3, 0, 0), 0) := rfl
theorem s314_1031 {c : Nat → List AV → SS → Option Out} {l0 l1 l2 l3 l4 l5 l6 l7 : Option AV} {a0 : OId} {a1 : Int32} {a2 : OId} {L2 : List (Nat × AV)} {S : SS} : ev c 314 1031 [l0, l1, l2, l3, l4, l5, l6, l7] L2 [aR a2, aI a1, aR a0] S = ck (c 111 [aR a0, aI a1, aR a2] S) (fun v S' => ev c 314 1034 [l0, l1, l2, l3, l4, l5, l6, l7] L2 (v.toList ++ []) S') := ev_call i314_1031 rfl
theorem i314_1034 : insAt 314 1034 = some (.istore 6, 2, (0, 0, 0, 0), 0) := rfl
theorem s314_1034 {c : Nat → List AV → SS → Option Out} {l0 l1 l2 l3 l4 l5 l6 l7 : Option AV} {x : Int32} {L2 : List (Nat × AV)} {St : List AV} {S : SS} : ev c 314 1034 [l0, l1, l2, l3, l4, l5, l6, l7] L2 (aI x :: St) S = ev c 314 1036 [l0, l1, l2, l3, l4, l5, some (aI x), l7] (kil L2 6) St S := ev_go i314_1034 rfl
theorem i314_1036 : insAt 314 1036 = some (.aload_n 2, 1, (0, 0, 0, 0), 0) := rfl
theorem s314_1036 {c : Nat → List AV → SS → Option Out} {l0 l1 l3 l4 l5 l6 l7 : Option AV} {o : OId} {L2 : List (Nat × AV)} {St : List AV} {S : SS} : ev c 314 1036 [l0, l1, some (aR o), l3, l4, l5, l6, l7] L2 St S = ev c 314 1037 [l0, l1, some (aR o), l3, l4, l5, l6, l7] L2 (aR o :: St) S := ev_go i314_1036 rfl
theorem i314_1037 : insAt 314 1037 = some (.aload_n 0, 1, (0, 0, 0, 0), 0) := rfl
theorem s314_1037 {c : Nat → List AV → SS → Option Out} {l1 l2 l3 l4 l5 l6 l7 : Option AV} {o : OId} {L2 : List (Nat × AV)} {St : List AV} {S : SS} : ev c 314 1037 [some (aR o), l1, l2, l3, l4, l5, l6, l7] L2 St S = ev c 314 1038 [some (aR o), l1, l2, l3, l4, l5, l6, l7] L2 (aR o :: St) S := ev_go i314_1037 rfl
theorem i314_1038 : insAt 314 1038 = some (.iload 5, 2, (0, 0, 0, 0), 0) := rfl
theorem s314_1038 {c : Nat → List AV → SS → Option Out} {l0 l1 l2 l3 l4 l6 l7 : Option AV} {x : Int32} {L2 : List (Nat × AV)} {St : List AV} {S : SS} : ev c 314 1038 [l0, l1, l2, l3, l4, some (aI x), l6, l7] L2 St S = ev c 314 1040 [l0, l1, l2, l3, l4, some (aI x), l6, l7] L2 (aI x :: St) S := ev_go i314_1038 rfl
theorem i314_1040 : insAt 314 1040 = some (.iconst 1, 1, (0, 0, 0, 0), 0) := rfl
theorem s314_1040 {c : Nat → List AV → SS → Option Out} {l0 l1 l2 l3 l4 l5 l6 l7 : Option AV} {L2 : List (Nat × AV)} {St : List AV} {S : SS} : ev c 314 1040 [l0, l1, l2, l3, l4, l5, l6, l7] L2 St S = ev c 314 1041 [l0, l1, l2, l3, l4, l5, l6, l7] L2 (aI 1 :: St) S := ev_go i314_1040 rfl
theorem i314_1041 : insAt 314 1041 = some (.iadd, 1, (0, 0, 0, 0), 0) := rfl
theorem s314_1041 {c : Nat → List AV → SS → Option Out} {l0 l1 l2 l3 l4 l5 l6 l7 : Option AV} {x y : Int32} {L2 : List (Nat × AV)} {St : List AV} {S : SS} : ev c 314 1041 [l0, l1, l2, l3, l4, l5, l6, l7] L2 (aI y :: aI x :: St) S = ev c 314 1042 [l0, l1, l2, l3, l4, l5, l6, l7] L2 (aI (x + y) :: St) S := ev_go i314_1041 rfl
theorem i314_1042 : insAt 314 1042 = some (.iaload, 1, (0, 0, 0, 0), 0) := rfl
theorem s314_1042 {c : Nat → List AV → SS → Option Out} {l0 l1 l2 l3 l4 l5 l6 l7 : Option AV} {i : Int32} {o : OId} {L2 : List (Nat × AV)} {St : List AV} {S : SS} : ev c 314 1042 [l0, l1, l2, l3, l4, l5, l6, l7] L2 (aI i :: aR o :: St) S = kI o i (ev c 314 1043 [l0, l1, l2, l3, l4, l5, l6, l7] L2 (aI (agI S o i.toNatClampNeg) :: St) S) := ev_iaload i314_1042
theorem i314_1043 : insAt 314 1043 = some (.invokevirtual 211, 3, (271, 1, 2, 12), 0) := rfl
theorem s314_1043 {c : Nat → List AV → SS → Option Out} {l0 l1 l2 l3 l4 l5 l6 l7 : Option AV} {a0 : Int32} {j t : Nat} {L2 : List (Nat × AV)} {S : SS} : ev c 314 1043 [l0, l1, l2, l3, l4, l5, l6, l7] L2 [aI a0, aR (12, j, t)] S = ck (c 271 [aR (12, j, t), aI a0] S) (fun v S' => ev c 314 1046 [l0, l1, l2, l3, l4, l5, l6, l7] L2 (v.toList ++ []) S') := ev_call i314_1043 rfl
theorem i314_1046 : insAt 314 1046 = some (.istore 7, 2, (0, 0, 0, 0), 0) := rfl
theorem s314_1046 {c : Nat → List AV → SS → Option Out} {l0 l1 l2 l3 l4 l5 l6 l7 : Option AV} {x : Int32} {L2 : List (Nat × AV)} {St : List AV} {S : SS} : ev c 314 1046 [l0, l1, l2, l3, l4, l5, l6, l7] L2 (aI x :: St) S = ev c 314 1048 [l0, l1, l2, l3, l4, l5, l6, some (aI x)] (kil L2 7) St S := ev_go i314_1046 rfl
theorem i314_1048 : insAt 314 1048 = some (.aload_n 2, 1, (0, 0, 0, 0), 0) := rfl
theorem s314_1048 {c : Nat → List AV → SS → Option Out} {l0 l1 l3 l4 l5 l6 l7 : Option AV} {o : OId} {L2 : List (Nat × AV)} {St : List AV} {S : SS} : ev c 314 1048 [l0, l1, some (aR o), l3, l4, l5, l6, l7] L2 St S = ev c 314 1049 [l0, l1, some (aR o), l3, l4, l5, l6, l7] L2 (aR o :: St) S := ev_go i314_1048 rfl
theorem i314_1049 : insAt 314 1049 = some (.invokevirtual 149, 3, (218, 0, 2, 12), 0) := rfl
theorem s314_1049 {c : Nat → List AV → SS → Option Out} {l0 l1 l2 l3 l4 l5 l6 l7 : Option AV} {j t : Nat} {L2 : List (Nat × AV)} {S : SS} : ev c 314 1049 [l0, l1, l2, l3, l4, l5, l6, l7] L2 [aR (12, j, t)] S = ck (c 218 [aR (12, j, t)] S) (fun v S' => ev c 314 1052 [l0, l1, l2, l3, l4, l5, l6, l7] L2 (v.toList ++ []) S') := ev_call i314_1049 rfl
theorem i314_1052 : insAt 314 1052 = some (.iload 6, 2, (0, 0, 0, 0), 0) := rfl
theorem s314_1052 {c : Nat → List AV → SS → Option Out} {l0 l1 l2 l3 l4 l5 l7 : Option AV} {x : Int32} {L2 : List (Nat × AV)} {St : List AV} {S : SS} : ev c 314 1052 [l0, l1, l2, l3, l4, l5, some (aI x), l7] L2 St S = ev c 314 1054 [l0, l1, l2, l3, l4, l5, some (aI x), l7] L2 (aI x :: St) S := ev_go i314_1052 rfl
theorem i314_1054 : insAt 314 1054 = some (.if_icmp .eq 5, 3, (0, 0, 0, 0), 0) := rfl
theorem s314_1054 {c : Nat → List AV → SS → Option Out} {l0 l1 l2 l3 l4 l5 l6 l7 : Option AV} {x y : Int32} {L2 : List (Nat × AV)} {St : List AV} {S : SS} : ev c 314 1054 [l0, l1, l2, l3, l4, l5, l6, l7] L2 (aI y :: aI x :: St) S = if x = y then ev c 314 1059 [l0, l1, l2, l3, l4, l5, l6, l7] L2 St S else ev c 314 1057 [l0, l1, l2, l3, l4, l5, l6, l7] L2 St S := ev_br i314_1054 rfl
theorem i314_1057 : insAt 314 1057 = some (.iconst 0, 1, (0, 0, 0, 0), 0) := rfl
theorem s314_1057 {c : Nat → List AV → SS → Option Out} {l0 l1 l2 l3 l4 l5 l6 l7 : Option AV} {L2 : List (Nat × AV)} {St : List AV} {S : SS} : ev c 314 1057 [l0, l1, l2, l3, l4, l5, l6, l7] L2 St S = ev c 314 1058 [l0, l1, l2, l3, l4, l5, l6, l7] L2 (aI 0 :: St) S := ev_go i314_1057 rfl
theorem i314_1058 : insAt 314 1058 = some (.ireturn, 1, (0, 0, 0, 0), 0) := rfl
theorem s314_1058 {c : Nat → List AV → SS → Option Out} {l0 l1 l2 l3 l4 l5 l6 l7 : Option AV} {x : Int32} {L2 : List (Nat × AV)} {St : List AV} {S : SS} : ev c 314 1058 [l0, l1, l2, l3, l4, l5, l6, l7] L2 [aI x] S = if x = 0 ∨ x = 1 then some (.inl (some (aI x)), S) else none := ev_rt i314_1058 rfl
theorem i314_1059 : insAt 314 1059 = some (.iload 6, 2, (0, 0, 0, 0), 0) := rfl
theorem s314_1059 {c : Nat → List AV → SS → Option Out} {l0 l1 l2 l3 l4 l5 l7 : Option AV} {x : Int32} {L2 : List (Nat × AV)} {St : List AV} {S : SS} : ev c 314 1059 [l0, l1, l2, l3, l4, l5, some (aI x), l7] L2 St S = ev c 314 1061 [l0, l1, l2, l3, l4, l5, some (aI x), l7] L2 (aI x :: St) S := ev_go i314_1059 rfl
theorem i314_1061 : insAt 314 1061 = some (.ifCond .ne 15, 3, (0, 0, 0, 0), 0) := rfl
theorem s314_1061 {c : Nat → List AV → SS → Option Out} {l0 l1 l2 l3 l4 l5 l6 l7 : Option AV} {x : Int32} {L2 : List (Nat × AV)} {St : List AV} {S : SS} : ev c 314 1061 [l0, l1, l2, l3, l4, l5, l6, l7] L2 (aI x :: St) S = if x = 0 then ev c 314 1064 [l0, l1, l2, l3, l4, l5, l6, l7] L2 St S else ev c 314 1076 [l0, l1, l2, l3, l4, l5, l6, l7] L2 St S := (ev_br i314_1061 rfl).trans (ite_not _ _ _)
theorem i314_1064 : insAt 314 1064 = some (.aload_n 3, 1, (0, 0, 0, 0), 0) := rfl
theorem s314_1064 {c : Nat → List AV → SS → Option Out} {l0 l1 l2 l4 l5 l6 l7 : Option AV} {o : OId} {L2 : List (Nat × AV)} {St : List AV} {S : SS} : ev c 314 1064 [l0, l1, l2, some (aR o), l4, l5, l6, l7] L2 St S = ev c 314 1065 [l0, l1, l2, some (aR o), l4, l5, l6, l7] L2 (aR o :: St) S := ev_go i314_1064 rfl
theorem i314_1065 : insAt 314 1065 = some (.iconst 0, 1, (0, 0, 0, 0), 0) := rfl
theorem s314_1065 {c : Nat → List AV → SS → Option Out} {l0 l1 l2 l3 l4 l5 l6 l7 : Option AV} {L2 : List (Nat × AV)} {St : List AV} {S : SS} : ev c 314 1065 [l0, l1, l2, l3, l4, l5, l6, l7] L2 St S = ev c 314 1066 [l0, l1, l2, l3, l4, l5, l6, l7] L2 (aI 0 :: St) S := ev_go i314_1065 rfl
theorem i314_1066 : insAt 314 1066 = some (.laload, 1, (0, 0, 0, 0), 0) := rfl
theorem s314_1066 {c : Nat → List AV → SS → Option Out} {l0 l1 l2 l3 l4 l5 l6 l7 : Option AV} {i : Int32} {o : OId} {L2 : List (Nat × AV)} {St : List AV} {S : SS} : ev c 314 1066 [l0, l1, l2, l3, l4, l5, l6, l7] L2 (aI i :: aR o :: St) S = kJ o i (ev c 314 1067 [l0, l1, l2, l3, l4, l5, l6, l7] L2 (aL (toL (S.2.1 o i.toNatClampNeg)) :: St) S) := ev_laload i314_1066
theorem i314_1067 : insAt 314 1067 = some (.iload 7, 2, (0, 0, 0, 0), 0) := rfl
theorem s314_1067 {c : Nat → List AV → SS → Option Out} {l0 l1 l2 l3 l4 l5 l6 : Option AV} {x : Int32} {L2 : List (Nat × AV)} {St : List AV} {S : SS} : ev c 314 1067 [l0, l1, l2, l3, l4, l5, l6, some (aI x)] L2 St S = ev c 314 1069 [l0, l1, l2, l3, l4, l5, l6, some (aI x)] L2 (aI x :: St) S := ev_go i314_1067 rfl
theorem i314_1069 : insAt 314 1069 = some (.i2l, 1, (0, 0, 0, 0), 0) := rfl
theorem s314_1069 {c : Nat → List AV → SS → Option Out} {l0 l1 l2 l3 l4 l5 l6 l7 : Option AV} {x : Int32} {L2 : List (Nat × AV)} {St : List AV} {S : SS} : ev c 314 1069 [l0, l1, l2, l3, l4, l5, l6, l7] L2 (aI x :: St) S = ev c 314 1070 [l0, l1, l2, l3, l4, l5, l6, l7] L2 (aL x.toInt64 :: St) S := ev_go i314_1069 rfl
theorem i314_1070 : insAt 314 1070 = some (.lcmp, 1, (0, 0, 0, 0), 0) := rfl
theorem s314_1070 {c : Nat → List AV → SS → Option Out} {l0 l1 l2 l3 l4 l5 l6 l7 : Option AV} {x y : Int64} {L2 : List (Nat × AV)} {St : List AV} {S : SS} : ev c 314 1070 [l0, l1, l2, l3, l4, l5, l6, l7] L2 (aL y :: aL x :: St) S = ev c 314 1071 [l0, l1, l2, l3, l4, l5, l6, l7] L2 (aI (if x < y then -1 else if x = y then 0 else 1) :: St) S := ev_go i314_1070 rfl
theorem i314_1071 : insAt 314 1071 = some (.ifCond .eq 5, 3, (0, 0, 0, 0), 0) := rfl
theorem s314_1071 {c : Nat → List AV → SS → Option Out} {l0 l1 l2 l3 l4 l5 l6 l7 : Option AV} {x : Int32} {L2 : List (Nat × AV)} {St : List AV} {S : SS} : ev c 314 1071 [l0, l1, l2, l3, l4, l5, l6, l7] L2 (aI x :: St) S = if x = 0 then ev c 314 1076 [l0, l1, l2, l3, l4, l5, l6, l7] L2 St S else ev c 314 1074 [l0, l1, l2, l3, l4, l5, l6, l7] L2 St S := ev_br i314_1071 rfl
theorem i314_1074 : insAt 314 1074 = some (.iconst 0, 1, (0, 0, 0, 0), 0) := rfl
theorem s314_1074 {c : Nat → List AV → SS → Option Out} {l0 l1 l2 l3 l4 l5 l6 l7 : Option AV} {L2 : List (Nat × AV)} {St : List AV} {S : SS} : ev c 314 1074 [l0, l1, l2, l3, l4, l5, l6, l7] L2 St S = ev c 314 1075 [l0, l1, l2, l3, l4, l5, l6, l7] L2 (aI 0 :: St) S := ev_go i314_1074 rfl
theorem i314_1075 : insAt 314 1075 = some (.ireturn, 1, (0, 0, 0, 0), 0) := rfl
theorem s314_1075 {c : Nat → List AV → SS → Option Out} {l0 l1 l2 l3 l4 l5 l6 l7 : Option AV} {x : Int32} {L2 : List (Nat × AV)} {St : List AV} {S : SS} : ev c 314 1075 [l0, l1, l2, l3, l4, l5, l6, l7] L2 [aI x] S = if x = 0 ∨ x = 1 then some (.inl (some (aI x)), S) else none := ev_rt i314_1075 rfl
theorem i314_1076 : insAt 314 1076 = some (.goto 1723, 3, (0, 0, 0, 0), 0) := rfl
theorem s314_1076 {c : Nat → List AV → SS → Option Out} {l0 l1 l2 l3 l4 l5 l6 l7 : Option AV} {L2 : List (Nat × AV)} {St : List AV} {S : SS} : ev c 314 1076 [l0, l1, l2, l3, l4, l5, l6, l7] L2 St S = ev c 314 2799 [l0, l1, l2, l3, l4, l5, l6, l7] L2 St S := ev_go i314_1076 rfl
theorem i314_1079 : insAt 314 1079 = some (.aload_n 1, 1, (0, 0, 0, 0), 0) := rfl
theorem s314_1079 {c : Nat → List AV → SS → Option Out} {l0 l2 l3 l4 l5 l6 l7 : Option AV} {o : OId} {L2 : List (Nat × AV)} {St : List AV} {S : SS} : ev c 314 1079 [l0, some (aR o), l2, l3, l4, l5, l6, l7] L2 St S = ev c 314 1080 [l0, some (aR o), l2, l3, l4, l5, l6, l7] L2 (aR o :: St) S := ev_go i314_1079 rfl
theorem i314_1080 : insAt 314 1080 = some (.aload_n 0, 1, (0, 0, 0, 0), 0) := rfl
theorem s314_1080 {c : Nat → List AV → SS → Option Out} {l1 l2 l3 l4 l5 l6 l7 : Option AV} {o : OId} {L2 : List (Nat × AV)} {St : List AV} {S : SS} : ev c 314 1080 [some (aR o), l1, l2, l3, l4, l5, l6, l7] L2 St S = ev c 314 1081 [some (aR o), l1, l2, l3, l4, l5, l6, l7] L2 (aR o :: St) S := ev_go i314_1080 rfl
theorem i314_1081 : insAt 314 1081 = some (.iload 5, 2, (0, 0, 0, 0), 0) := rfl
theorem s314_1081 {c : Nat → List AV → SS → Option Out} {l0 l1 l2 l3 l4 l6 l7 : Option AV} {x : Int32} {L2 : List (Nat × AV)} {St : List AV} {S : SS} : ev c 314 1081 [l0, l1, l2, l3, l4, some (aI x), l6, l7] L2 St S = ev c 314 1083 [l0, l1, l2, l3, l4, some (aI x), l6, l7] L2 (aI x :: St) S := ev_go i314_1081 rfl
theorem i314_1083 : insAt 314 1083 = some (.iconst 1, 1, (0, 0, 0, 0), 0) := rfl
theorem s314_1083 {c : Nat → List AV → SS → Option Out} {l0 l1 l2 l3 l4 l5 l6 l7 : Option AV} {L2 : List (Nat × AV)} {St : List AV} {S : SS} : ev c 314 1083 [l0, l1, l2, l3, l4, l5, l6, l7] L2 St S = ev c 314 1084 [l0, l1, l2, l3, l4, l5, l6, l7] L2 (aI 1 :: St) S := ev_go i314_1083 rfl
theorem i314_1084 : insAt 314 1084 = some (.iadd, 1, (0, 0, 0, 0), 0) := rfl
theorem s314_1084 {c : Nat → List AV → SS → Option Out} {l0 l1 l2 l3 l4 l5 l6 l7 : Option AV} {x y : Int32} {L2 : List (Nat × AV)} {St : List AV} {S : SS} : ev c 314 1084 [l0, l1, l2, l3, l4, l5, l6, l7] L2 (aI y :: aI x :: St) S = ev c 314 1085 [l0, l1, l2, l3, l4, l5, l6, l7] L2 (aI (x + y) :: St) S := ev_go i314_1084 rfl
theorem i314_1085 : insAt 314 1085 = some (.iaload, 1, (0, 0, 0, 0), 0) := rfl
theorem s314_1085 {c : Nat → List AV → SS → Option Out} {l0 l1 l2 l3 l4 l5 l6 l7 : Option AV} {i : Int32} {o : OId} {L2 : List (Nat × AV)} {St : List AV} {S : SS} : ev c 314 1085 [l0, l1, l2, l3, l4, l5, l6, l7] L2 (aI i :: aR o :: St) S = kI o i (ev c 314 1086 [l0, l1, l2, l3, l4, l5, l6, l7] L2 (aI (agI S o i.toNatClampNeg) :: St) S) := ev_iaload i314_1085
theorem i314_1086 : insAt 314 1086 = some (.aload_n 3, 1, (0, 0, 0, 0), 0) := rfl
theorem s314_1086 {c : Nat → List AV → SS → Option Out} {l0 l1 l2 l4 l5 l6 l7 : Option AV} {o : OId} {L2 : List (Nat × AV)} {St : List AV} {S : SS} : ev c 314 1086 [l0, l1, l2, some (aR o), l4, l5, l6, l7] L2 St S = ev c 314 1087 [l0, l1, l2, some (aR o), l4, l5, l6, l7] L2 (aR o :: St) S := ev_go i314_1086 rfl
theorem i314_1087 : insAt 314 1087 = some (.invokestatic 212, 3, (113, 3, 0, 0), 0) := rfl
theorem s314_1087 {c : Nat → List AV → SS → Option Out} {l0 l1 l2 l3 l4 l5 l6 l7 : Option AV} {a0 : OId} {a1 : Int32} {a2 : OId} {L2 : List (Nat × AV)} {S : SS} : ev c 314 1087 [l0, l1, l2, l3, l4, l5, l6, l7] L2 [aR a2, aI a1, aR a0] S = ck (c 113 [aR a0, aI a1, aR a2] S) (fun v S' => ev c 314 1090 [l0, l1, l2, l3, l4, l5, l6, l7] L2 (v.toList ++ []) S') := ev_call i314_1087 rfl
theorem i314_1090 : insAt 314 1090 = some (.istore 6, 2, (0, 0, 0, 0), 0) := rfl
theorem s314_1090 {c : Nat → List AV → SS → Option Out} {l0 l1 l2 l3 l4 l5 l6 l7 : Option AV} {x : Int32} {L2 : List (Nat × AV)} {St : List AV} {S : SS} : ev c 314 1090 [l0, l1, l2, l3, l4, l5, l6, l7] L2 (aI x :: St) S = ev c 314 1092 [l0, l1, l2, l3, l4, l5, some (aI x), l7] (kil L2 6) St S := ev_go i314_1090 rfl
theorem i314_1092 : insAt 314 1092 = some (.aload_n 2, 1, (0, 0, 0, 0), 0) := rfl
theorem s314_1092 {c : Nat → List AV → SS → Option Out} {l0 l1 l3 l4 l5 l6 l7 : Option AV} {o : OId} {L2 : List (Nat × AV)} {St : List AV} {S : SS} : ev c 314 1092 [l0, l1, some (aR o), l3, l4, l5, l6, l7] L2 St S = ev c 314 1093 [l0, l1, some (aR o), l3, l4, l5, l6, l7] L2 (aR o :: St) S := ev_go i314_1092 rfl
theorem i314_1093 : insAt 314 1093 = some (.aload_n 0, 1, (0, 0, 0, 0), 0) := rfl
theorem s314_1093 {c : Nat → List AV → SS → Option Out} {l1 l2 l3 l4 l5 l6 l7 : Option AV} {o : OId} {L2 : List (Nat × AV)} {St : List AV} {S : SS} : ev c 314 1093 [some (aR o), l1, l2, l3, l4, l5, l6, l7] L2 St S = ev c 314 1094 [some (aR o), l1, l2, l3, l4, l5, l6, l7] L2 (aR o :: St) S := ev_go i314_1093 rfl
theorem i314_1094 : insAt 314 1094 = some (.iload 5, 2, (0, 0, 0, 0), 0) := rfl
theorem s314_1094 {c : Nat → List AV → SS → Option Out} {l0 l1 l2 l3 l4 l6 l7 : Option AV} {x : Int32} {L2 : List (Nat × AV)} {St : List AV} {S : SS} : ev c 314 1094 [l0, l1, l2, l3, l4, some (aI x), l6, l7] L2 St S = ev c 314 1096 [l0, l1, l2, l3, l4, some (aI x), l6, l7] L2 (aI x :: St) S := ev_go i314_1094 rfl
theorem i314_1096 : insAt 314 1096 = some (.iconst 1, 1, (0, 0, 0, 0), 0) := rfl
theorem s314_1096 {c : Nat → List AV → SS → Option Out} {l0 l1 l2 l3 l4 l5 l6 l7 : Option AV} {L2 : List (Nat × AV)} {St : List AV} {S : SS} : ev c 314 1096 [l0, l1, l2, l3, l4, l5, l6, l7] L2 St S = ev c 314 1097 [l0, l1, l2, l3, l4, l5, l6, l7] L2 (aI 1 :: St) S := ev_go i314_1096 rfl
theorem i314_1097 : insAt 314 1097 = some (.iadd, 1, (0, 0, 0, 0), 0) := rfl
theorem s314_1097 {c : Nat → List AV → SS → Option Out} {l0 l1 l2 l3 l4 l5 l6 l7 : Option AV} {x y : Int32} {L2 : List (Nat × AV)} {St : List AV} {S : SS} : ev c 314 1097 [l0, l1, l2, l3, l4, l5, l6, l7] L2 (aI y :: aI x :: St) S = ev c 314 1098 [l0, l1, l2, l3, l4, l5, l6, l7] L2 (aI (x + y) :: St) S := ev_go i314_1097 rfl
theorem i314_1098 : insAt 314 1098 = some (.iaload, 1, (0, 0, 0, 0), 0) := rfl
theorem s314_1098 {c : Nat → List AV → SS → Option Out} {l0 l1 l2 l3 l4 l5 l6 l7 : Option AV} {i : Int32} {o : OId} {L2 : List (Nat × AV)} {St : List AV} {S : SS} : ev c 314 1098 [l0, l1, l2, l3, l4, l5, l6, l7] L2 (aI i :: aR o :: St) S = kI o i (ev c 314 1099 [l0, l1, l2, l3, l4, l5, l6, l7] L2 (aI (agI S o i.toNatClampNeg) :: St) S) := ev_iaload i314_1098
theorem i314_1099 : insAt 314 1099 = some (.invokevirtual 214, 3, (272, 1, 2, 12), 0) := rfl
theorem s314_1099 {c : Nat → List AV → SS → Option Out} {l0 l1 l2 l3 l4 l5 l6 l7 : Option AV} {a0 : Int32} {j t : Nat} {L2 : List (Nat × AV)} {S : SS} : ev c 314 1099 [l0, l1, l2, l3, l4, l5, l6, l7] L2 [aI a0, aR (12, j, t)] S = ck (c 272 [aR (12, j, t), aI a0] S) (fun v S' => ev c 314 1102 [l0, l1, l2, l3, l4, l5, l6, l7] L2 (v.toList ++ []) S') := ev_call i314_1099 rfl
theorem i314_1102 : insAt 314 1102 = some (.istore 7, 2, (0, 0, 0, 0), 0) := rfl
theorem s314_1102 {c : Nat → List AV → SS → Option Out} {l0 l1 l2 l3 l4 l5 l6 l7 : Option AV} {x : Int32} {L2 : List (Nat × AV)} {St : List AV} {S : SS} : ev c 314 1102 [l0, l1, l2, l3, l4, l5, l6, l7] L2 (aI x :: St) S = ev c 314 1104 [l0, l1, l2, l3, l4, l5, l6, some (aI x)] (kil L2 7) St S := ev_go i314_1102 rfl
theorem i314_1104 : insAt 314 1104 = some (.aload_n 2, 1, (0, 0, 0, 0), 0) := rfl
theorem s314_1104 {c : Nat → List AV → SS → Option Out} {l0 l1 l3 l4 l5 l6 l7 : Option AV} {o : OId} {L2 : List (Nat × AV)} {St : List AV} {S : SS} : ev c 314 1104 [l0, l1, some (aR o), l3, l4, l5, l6, l7] L2 St S = ev c 314 1105 [l0, l1, some (aR o), l3, l4, l5, l6, l7] L2 (aR o :: St) S := ev_go i314_1104 rfl
theorem i314_1105 : insAt 314 1105 = some (.invokevirtual 149, 3, (218, 0, 2, 12), 0) := rfl
theorem s314_1105 {c : Nat → List AV → SS → Option Out} {l0 l1 l2 l3 l4 l5 l6 l7 : Option AV} {j t : Nat} {L2 : List (Nat × AV)} {S : SS} : ev c 314 1105 [l0, l1, l2, l3, l4, l5, l6, l7] L2 [aR (12, j, t)] S = ck (c 218 [aR (12, j, t)] S) (fun v S' => ev c 314 1108 [l0, l1, l2, l3, l4, l5, l6, l7] L2 (v.toList ++ []) S') := ev_call i314_1105 rfl
theorem i314_1108 : insAt 314 1108 = some (.iload 6, 2, (0, 0, 0, 0), 0) := rfl
theorem s314_1108 {c : Nat → List AV → SS → Option Out} {l0 l1 l2 l3 l4 l5 l7 : Option AV} {x : Int32} {L2 : List (Nat × AV)} {St : List AV} {S : SS} : ev c 314 1108 [l0, l1, l2, l3, l4, l5, some (aI x), l7] L2 St S = ev c 314 1110 [l0, l1, l2, l3, l4, l5, some (aI x), l7] L2 (aI x :: St) S := ev_go i314_1108 rfl
theorem i314_1110 : insAt 314 1110 = some (.if_icmp .eq 5, 3, (0, 0, 0, 0), 0) := rfl
theorem s314_1110 {c : Nat → List AV → SS → Option Out} {l0 l1 l2 l3 l4 l5 l6 l7 : Option AV} {x y : Int32} {L2 : List (Nat × AV)} {St : List AV} {S : SS} : ev c 314 1110 [l0, l1, l2, l3, l4, l5, l6, l7] L2 (aI y :: aI x :: St) S = if x = y then ev c 314 1115 [l0, l1, l2, l3, l4, l5, l6, l7] L2 St S else ev c 314 1113 [l0, l1, l2, l3, l4, l5, l6, l7] L2 St S := ev_br i314_1110 rfl
theorem i314_1113 : insAt 314 1113 = some (.iconst 0, 1, (0, 0, 0, 0), 0) := rfl
theorem s314_1113 {c : Nat → List AV → SS → Option Out} {l0 l1 l2 l3 l4 l5 l6 l7 : Option AV} {L2 : List (Nat × AV)} {St : List AV} {S : SS} : ev c 314 1113 [l0, l1, l2, l3, l4, l5, l6, l7] L2 St S = ev c 314 1114 [l0, l1, l2, l3, l4, l5, l6, l7] L2 (aI 0 :: St) S := ev_go i314_1113 rfl
theorem i314_1114 : insAt 314 1114 = some (.ireturn, 1, (0, 0, 0, 0), 0) := rfl
theorem s314_1114 {c : Nat → List AV → SS → Option Out} {l0 l1 l2 l3 l4 l5 l6 l7 : Option AV} {x : Int32} {L2 : List (Nat × AV)} {St : List AV} {S : SS} : ev c 314 1114 [l0, l1, l2, l3, l4, l5, l6, l7] L2 [aI x] S = if x = 0 ∨ x = 1 then some (.inl (some (aI x)), S) else none := ev_rt i314_1114 rfl
theorem i314_1115 : insAt 314 1115 = some (.iload 6, 2, (0, 0, 0, 0), 0) := rfl
theorem s314_1115 {c : Nat → List AV → SS → Option Out} {l0 l1 l2 l3 l4 l5 l7 : Option AV} {x : Int32} {L2 : List (Nat × AV)} {St : List AV} {S : SS} : ev c 314 1115 [l0, l1, l2, l3, l4, l5, some (aI x), l7] L2 St S = ev c 314 1117 [l0, l1, l2, l3, l4, l5, some (aI x), l7] L2 (aI x :: St) S := ev_go i314_1115 rfl
theorem i314_1117 : insAt 314 1117 = some (.ifCond .ne 15, 3, (0, 0, 0, 0), 0) := rfl
theorem s314_1117 {c : Nat → List AV → SS → Option Out} {l0 l1 l2 l3 l4 l5 l6 l7 : Option AV} {x : Int32} {L2 : List (Nat × AV)} {St : List AV} {S : SS} : ev c 314 1117 [l0, l1, l2, l3, l4, l5, l6, l7] L2 (aI x :: St) S = if x = 0 then ev c 314 1120 [l0, l1, l2, l3, l4, l5, l6, l7] L2 St S else ev c 314 1132 [l0, l1, l2, l3, l4, l5, l6, l7] L2 St S := (ev_br i314_1117 rfl).trans (ite_not _ _ _)
theorem i314_1120 : insAt 314 1120 = some (.aload_n 3, 1, (0, 0, 0, 0), 0) := rfl
theorem s314_1120 {c : Nat → List AV → SS → Option Out} {l0 l1 l2 l4 l5 l6 l7 : Option AV} {o : OId} {L2 : List (Nat × AV)} {St : List AV} {S : SS} : ev c 314 1120 [l0, l1, l2, some (aR o), l4, l5, l6, l7] L2 St S = ev c 314 1121 [l0, l1, l2, some (aR o), l4, l5, l6, l7] L2 (aR o :: St) S := ev_go i314_1120 rfl
theorem i314_1121 : insAt 314 1121 = some (.iconst 0, 1, (0, 0, 0, 0), 0) := rfl
theorem s314_1121 {c : Nat → List AV → SS → Option Out} {l0 l1 l2 l3 l4 l5 l6 l7 : Option AV} {L2 : List (Nat × AV)} {St : List AV} {S : SS} : ev c 314 1121 [l0, l1, l2, l3, l4, l5, l6, l7] L2 St S = ev c 314 1122 [l0, l1, l2, l3, l4, l5, l6, l7] L2 (aI 0 :: St) S := ev_go i314_1121 rfl
theorem i314_1122 : insAt 314 1122 = some (.laload, 1, (0, 0, 0, 0), 0) := rfl
theorem s314_1122 {c : Nat → List AV → SS → Option Out} {l0 l1 l2 l3 l4 l5 l6 l7 : Option AV} {i : Int32} {o : OId} {L2 : List (Nat × AV)} {St : List AV} {S : SS} : ev c 314 1122 [l0, l1, l2, l3, l4, l5, l6, l7] L2 (aI i :: aR o :: St) S = kJ o i (ev c 314 1123 [l0, l1, l2, l3, l4, l5, l6, l7] L2 (aL (toL (S.2.1 o i.toNatClampNeg)) :: St) S) := ev_laload i314_1122
theorem i314_1123 : insAt 314 1123 = some (.iload 7, 2, (0, 0, 0, 0), 0) := rfl
theorem s314_1123 {c : Nat → List AV → SS → Option Out} {l0 l1 l2 l3 l4 l5 l6 : Option AV} {x : Int32} {L2 : List (Nat × AV)} {St : List AV} {S : SS} : ev c 314 1123 [l0, l1, l2, l3, l4, l5, l6, some (aI x)] L2 St S = ev c 314 1125 [l0, l1, l2, l3, l4, l5, l6, some (aI x)] L2 (aI x :: St) S := ev_go i314_1123 rfl
theorem i314_1125 : insAt 314 1125 = some (.i2l, 1, (0, 0, 0, 0), 0) := rfl
theorem s314_1125 {c : Nat → List AV → SS → Option Out} {l0 l1 l2 l3 l4 l5 l6 l7 : Option AV} {x : Int32} {L2 : List (Nat × AV)} {St : List AV} {S : SS} : ev c 314 1125 [l0, l1, l2, l3, l4, l5, l6, l7] L2 (aI x :: St) S = ev c 314 1126 [l0, l1, l2, l3, l4, l5, l6, l7] L2 (aL x.toInt64 :: St) S := ev_go i314_1125 rfl
theorem i314_1126 : insAt 314 1126 = some (.lcmp, 1, (0, 0, 0, 0), 0) := rfl
theorem s314_1126 {c : Nat → List AV → SS → Option Out} {l0 l1 l2 l3 l4 l5 l6 l7 : Option AV} {x y : Int64} {L2 : List (Nat × AV)} {St : List AV} {S : SS} : ev c 314 1126 [l0, l1, l2, l3, l4, l5, l6, l7] L2 (aL y :: aL x :: St) S = ev c 314 1127 [l0, l1, l2, l3, l4, l5, l6, l7] L2 (aI (if x < y then -1 else if x = y then 0 else 1) :: St) S := ev_go i314_1126 rfl
theorem i314_1127 : insAt 314 1127 = some (.ifCond .eq 5, 3, (0, 0, 0, 0), 0) := rfl
theorem s314_1127 {c : Nat → List AV → SS → Option Out} {l0 l1 l2 l3 l4 l5 l6 l7 : Option AV} {x : Int32} {L2 : List (Nat × AV)} {St : List AV} {S : SS} : ev c 314 1127 [l0, l1, l2, l3, l4, l5, l6, l7] L2 (aI x :: St) S = if x = 0 then ev c 314 1132 [l0, l1, l2, l3, l4, l5, l6, l7] L2 St S else ev c 314 1130 [l0, l1, l2, l3, l4, l5, l6, l7] L2 St S := ev_br i314_1127 rfl
theorem i314_1130 : insAt 314 1130 = some (.iconst 0, 1, (0, 0, 0, 0), 0) := rfl
theorem s314_1130 {c : Nat → List AV → SS → Option Out} {l0 l1 l2 l3 l4 l5 l6 l7 : Option AV} {L2 : List (Nat × AV)} {St : List AV} {S : SS} : ev c 314 1130 [l0, l1, l2, l3, l4, l5, l6, l7] L2 St S = ev c 314 1131 [l0, l1, l2, l3, l4, l5, l6, l7] L2 (aI 0 :: St) S := ev_go i314_1130 rfl
theorem i314_1131 : insAt 314 1131 = some (.ireturn, 1, (0, 0, 0, 0), 0) := rfl
theorem s314_1131 {c : Nat → List AV → SS → Option Out} {l0 l1 l2 l3 l4 l5 l6 l7 : Option AV} {x : Int32} {L2 : List (Nat × AV)} {St : List AV} {S : SS} : ev c 314 1131 [l0, l1, l2, l3, l4, l5, l6, l7] L2 [aI x] S = if x = 0 ∨ x = 1 then some (.inl (some (aI x)), S) else none := ev_rt i314_1131 rfl
theorem i314_1132 : insAt 314 1132 = some (.goto 1667, 3, (0, 0, 0, 0), 0) := rfl
theorem s314_1132 {c : Nat → List AV → SS → Option Out} {l0 l1 l2 l3 l4 l5 l6 l7 : Option AV} {L2 : List (Nat × AV)} {St : List AV} {S : SS} : ev c 314 1132 [l0, l1, l2, l3, l4, l5, l6, l7] L2 St S = ev c 314 2799 [l0, l1, l2, l3, l4, l5, l6, l7] L2 St S := ev_go i314_1132 rfl
theorem i314_1135 : insAt 314 1135 = some (.aload_n 1, 1, (0, 0, 0, 0), 0) := rfl
theorem s314_1135 {c : Nat → List AV → SS → Option Out} {l0 l2 l3 l4 l5 l6 l7 : Option AV} {o : OId} {L2 : List (Nat × AV)} {St : List AV} {S : SS} : ev c 314 1135 [l0, some (aR o), l2, l3, l4, l5, l6, l7] L2 St S = ev c 314 1136 [l0, some (aR o), l2, l3, l4, l5, l6, l7] L2 (aR o :: St) S := ev_go i314_1135 rfl
theorem i314_1136 : insAt 314 1136 = some (.aload_n 0, 1, (0, 0, 0, 0), 0) := rfl
theorem s314_1136 {c : Nat → List AV → SS → Option Out} {l1 l2 l3 l4 l5 l6 l7 : Option AV} {o : OId} {L2 : List (Nat × AV)} {St : List AV} {S : SS} : ev c 314 1136 [some (aR o), l1, l2, l3, l4, l5, l6, l7] L2 St S = ev c 314 1137 [some (aR o), l1, l2, l3, l4, l5, l6, l7] L2 (aR o :: St) S := ev_go i314_1136 rfl
theorem i314_1137 : insAt 314 1137 = some (.iload 5, 2, (0, 0, 0, 0), 0) := rfl
theorem s314_1137 {c : Nat → List AV → SS → Option Out} {l0 l1 l2 l3 l4 l6 l7 : Option AV} {x : Int32} {L2 : List (Nat × AV)} {St : List AV} {S : SS} : ev c 314 1137 [l0, l1, l2, l3, l4, some (aI x), l6, l7] L2 St S = ev c 314 1139 [l0, l1, l2, l3, l4, some (aI x), l6, l7] L2 (aI x :: St) S := ev_go i314_1137 rfl
theorem i314_1139 : insAt 314 1139 = some (.iconst 1, 1, (0, 0, 0, 0), 0) := rfl
theorem s314_1139 {c : Nat → List AV → SS → Option Out} {l0 l1 l2 l3 l4 l5 l6 l7 : Option AV} {L2 : List (Nat × AV)} {St : List AV} {S : SS} : ev c 314 1139 [l0, l1, l2, l3, l4, l5, l6, l7] L2 St S = ev c 314 1140 [l0, l1, l2, l3, l4, l5, l6, l7] L2 (aI 1 :: St) S := ev_go i314_1139 rfl
theorem i314_1140 : insAt 314 1140 = some (.iadd, 1, (0, 0, 0, 0), 0) := rfl
theorem s314_1140 {c : Nat → List AV → SS → Option Out} {l0 l1 l2 l3 l4 l5 l6 l7 : Option AV} {x y : Int32} {L2 : List (Nat × AV)} {St : List AV} {S : SS} : ev c 314 1140 [l0, l1, l2, l3, l4, l5, l6, l7] L2 (aI y :: aI x :: St) S = ev c 314 1141 [l0, l1, l2, l3, l4, l5, l6, l7] L2 (aI (x + y) :: St) S := ev_go i314_1140 rfl
theorem i314_1141 : insAt 314 1141 = some (.iaload, 1, (0, 0, 0, 0), 0) := rfl
theorem s314_1141 {c : Nat → List AV → SS → Option Out} {l0 l1 l2 l3 l4 l5 l6 l7 : Option AV} {i : Int32} {o : OId} {L2 : List (Nat × AV)} {St : List AV} {S : SS} : ev c 314 1141 [l0, l1, l2, l3, l4, l5, l6, l7] L2 (aI i :: aR o :: St) S = kI o i (ev c 314 1142 [l0, l1, l2, l3, l4, l5, l6, l7] L2 (aI (agI S o i.toNatClampNeg) :: St) S) := ev_iaload i314_1141
theorem i314_1142 : insAt 314 1142 = some (.aload_n 3, 1, (0, 0, 0, 0), 0) := rfl
theorem s314_1142 {c : Nat → List AV → SS → Option Out} {l0 l1 l2 l4 l5 l6 l7 : Option AV} {o : OId} {L2 : List (Nat × AV)} {St : List AV} {S : SS} : ev c 314 1142 [l0, l1, l2, some (aR o), l4, l5, l6, l7] L2 St S = ev c 314 1143 [l0, l1, l2, some (aR o), l4, l5, l6, l7] L2 (aR o :: St) S := ev_go i314_1142 rfl
theorem i314_1143 : insAt 314 1143 = some (.invokestatic 215, 3, (115, 3, 0, 0), 0) := rfl
theorem s314_1143 {c : Nat → List AV → SS → Option Out} {l0 l1 l2 l3 l4 l5 l6 l7 : Option AV} {a0 : OId} {a1 : Int32} {a2 : OId} {L2 : List (Nat × AV)} {S : SS} : ev c 314 1143 [l0, l1, l2, l3, l4, l5, l6, l7] L2 [aR a2, aI a1, aR a0] S = ck (c 115 [aR a0, aI a1, aR a2] S) (fun v S' => ev c 314 1146 [l0, l1, l2, l3, l4, l5, l6, l7] L2 (v.toList ++ []) S') := ev_call i314_1143 rfl
theorem i314_1146 : insAt 314 1146 = some (.istore 6, 2, (0, 0, 0, 0), 0) := rfl
theorem s314_1146 {c : Nat → List AV → SS → Option Out} {l0 l1 l2 l3 l4 l5 l6 l7 : Option AV} {x : Int32} {L2 : List (Nat × AV)} {St : List AV} {S : SS} : ev c 314 1146 [l0, l1, l2, l3, l4, l5, l6, l7] L2 (aI x :: St) S = ev c 314 1148 [l0, l1, l2, l3, l4, l5, some (aI x), l7] (kil L2 6) St S := ev_go i314_1146 rfl
theorem i314_1148 : insAt 314 1148 = some (.aload_n 2, 1, (0, 0, 0, 0), 0) := rfl
theorem s314_1148 {c : Nat → List AV → SS → Option Out} {l0 l1 l3 l4 l5 l6 l7 : Option AV} {o : OId} {L2 : List (Nat × AV)} {St : List AV} {S : SS} : ev c 314 1148 [l0, l1, some (aR o), l3, l4, l5, l6, l7] L2 St S = ev c 314 1149 [l0, l1, some (aR o), l3, l4, l5, l6, l7] L2 (aR o :: St) S := ev_go i314_1148 rfl
theorem i314_1149 : insAt 314 1149 = some (.aload_n 0, 1, (0, 0, 0, 0), 0) := rfl
theorem s314_1149 {c : Nat → List AV → SS → Option Out} {l1 l2 l3 l4 l5 l6 l7 : Option AV} {o : OId} {L2 : List (Nat × AV)} {St : List AV} {S : SS} : ev c 314 1149 [some (aR o), l1, l2, l3, l4, l5, l6, l7] L2 St S = ev c 314 1150 [some (aR o), l1, l2, l3, l4, l5, l6, l7] L2 (aR o :: St) S := ev_go i314_1149 rfl
theorem i314_1150 : insAt 314 1150 = some (.iload 5, 2, (0, 0, 0, 0), 0) := rfl
theorem s314_1150 {c : Nat → List AV → SS → Option Out} {l0 l1 l2 l3 l4 l6 l7 : Option AV} {x : Int32} {L2 : List (Nat × AV)} {St : List AV} {S : SS} : ev c 314 1150 [l0, l1, l2, l3, l4, some (aI x), l6, l7] L2 St S = ev c 314 1152 [l0, l1, l2, l3, l4, some (aI x), l6, l7] L2 (aI x :: St) S := ev_go i314_1150 rfl
theorem i314_1152 : insAt 314 1152 = some (.iconst 1, 1, (0, 0, 0, 0), 0) := rfl
theorem s314_1152 {c : Nat → List AV → SS → Option Out} {l0 l1 l2 l3 l4 l5 l6 l7 : Option AV} {L2 : List (Nat × AV)} {St : List AV} {S : SS} : ev c 314 1152 [l0, l1, l2, l3, l4, l5, l6, l7] L2 St S = ev c 314 1153 [l0, l1, l2, l3, l4, l5, l6, l7] L2 (aI 1 :: St) S := ev_go i314_1152 rfl
theorem i314_1153 : insAt 314 1153 = some (.iadd, 1, (0, 0, 0, 0), 0) := rfl
theorem s314_1153 {c : Nat → List AV → SS → Option Out} {l0 l1 l2 l3 l4 l5 l6 l7 : Option AV} {x y : Int32} {L2 : List (Nat × AV)} {St : List AV} {S : SS} : ev c 314 1153 [l0, l1, l2, l3, l4, l5, l6, l7] L2 (aI y :: aI x :: St) S = ev c 314 1154 [l0, l1, l2, l3, l4, l5, l6, l7] L2 (aI (x + y) :: St) S := ev_go i314_1153 rfl
theorem i314_1154 : insAt 314 1154 = some (.iaload, 1, (0, 0, 0, 0), 0) := rfl
theorem s314_1154 {c : Nat → List AV → SS → Option Out} {l0 l1 l2 l3 l4 l5 l6 l7 : Option AV} {i : Int32} {o : OId} {L2 : List (Nat × AV)} {St : List AV} {S : SS} : ev c 314 1154 [l0, l1, l2, l3, l4, l5, l6, l7] L2 (aI i :: aR o :: St) S = kI o i (ev c 314 1155 [l0, l1, l2, l3, l4, l5, l6, l7] L2 (aI (agI S o i.toNatClampNeg) :: St) S) := ev_iaload i314_1154
theorem i314_1155 : insAt 314 1155 = some (.invokevirtual 217, 3, (273, 1, 2, 12), 0) := rfl
theorem s314_1155 {c : Nat → List AV → SS → Option Out} {l0 l1 l2 l3 l4 l5 l6 l7 : Option AV} {a0 : Int32} {j t : Nat} {L2 : List (Nat × AV)} {S : SS} : ev c 314 1155 [l0, l1, l2, l3, l4, l5, l6, l7] L2 [aI a0, aR (12, j, t)] S = ck (c 273 [aR (12, j, t), aI a0] S) (fun v S' => ev c 314 1158 [l0, l1, l2, l3, l4, l5, l6, l7] L2 (v.toList ++ []) S') := ev_call i314_1155 rfl
theorem i314_1158 : insAt 314 1158 = some (.istore 7, 2, (0, 0, 0, 0), 0) := rfl
theorem s314_1158 {c : Nat → List AV → SS → Option Out} {l0 l1 l2 l3 l4 l5 l6 l7 : Option AV} {x : Int32} {L2 : List (Nat × AV)} {St : List AV} {S : SS} : ev c 314 1158 [l0, l1, l2, l3, l4, l5, l6, l7] L2 (aI x :: St) S = ev c 314 1160 [l0, l1, l2, l3, l4, l5, l6, some (aI x)] (kil L2 7) St S := ev_go i314_1158 rfl
theorem i314_1160 : insAt 314 1160 = some (.aload_n 2, 1, (0, 0, 0, 0), 0) := rfl
theorem s314_1160 {c : Nat → List AV → SS → Option Out} {l0 l1 l3 l4 l5 l6 l7 : Option AV} {o : OId} {L2 : List (Nat × AV)} {St : List AV} {S : SS} : ev c 314 1160 [l0, l1, some (aR o), l3, l4, l5, l6, l7] L2 St S = ev c 314 1161 [l0, l1, some (aR o), l3, l4, l5, l6, l7] L2 (aR o :: St) S := ev_go i314_1160 rfl
theorem i314_1161 : insAt 314 1161 = some (.invokevirtual 149, 3, (218, 0, 2, 12), 0) := rfl
theorem s314_1161 {c : Nat → List AV → SS → Option Out} {l0 l1 l2 l3 l4 l5 l6 l7 : Option AV} {j t : Nat} {L2 : List (Nat × AV)} {S : SS} : ev c 314 1161 [l0, l1, l2, l3, l4, l5, l6, l7] L2 [aR (12, j, t)] S = ck (c 218 [aR (12, j, t)] S) (fun v S' => ev c 314 1164 [l0, l1, l2, l3, l4, l5, l6, l7] L2 (v.toList ++ []) S') := ev_call i314_1161 rfl
theorem i314_1164 : insAt 314 1164 = some (.iload 6, 2, (0, 0, 0, 0), 0) := rfl
theorem s314_1164 {c : Nat → List AV → SS → Option Out} {l0 l1 l2 l3 l4 l5 l7 : Option AV} {x : Int32} {L2 : List (Nat × AV)} {St : List AV} {S : SS} : ev c 314 1164 [l0, l1, l2, l3, l4, l5, some (aI x), l7] L2 St S = ev c 314 1166 [l0, l1, l2, l3, l4, l5, some (aI x), l7] L2 (aI x :: St) S := ev_go i314_1164 rfl
theorem i314_1166 : insAt 314 1166 = some (.if_icmp .eq 5, 3, (0, 0, 0, 0), 0) := rfl
theorem s314_1166 {c : Nat → List AV → SS → Option Out} {l0 l1 l2 l3 l4 l5 l6 l7 : Option AV} {x y : Int32} {L2 : List (Nat × AV)} {St : List AV} {S : SS} : ev c 314 1166 [l0, l1, l2, l3, l4, l5, l6, l7] L2 (aI y :: aI x :: St) S = if x = y then ev c 314 1171 [l0, l1, l2, l3, l4, l5, l6, l7] L2 St S else ev c 314 1169 [l0, l1, l2, l3, l4, l5, l6, l7] L2 St S := ev_br i314_1166 rfl
theorem i314_1169 : insAt 314 1169 = some (.iconst 0, 1, (0, 0, 0, 0), 0) := rfl
theorem s314_1169 {c : Nat → List AV → SS → Option Out} {l0 l1 l2 l3 l4 l5 l6 l7 : Option AV} {L2 : List (Nat × AV)} {St : List AV} {S : SS} : ev c 314 1169 [l0, l1, l2, l3, l4, l5, l6, l7] L2 St S = ev c 314 1170 [l0, l1, l2, l3, l4, l5, l6, l7] L2 (aI 0 :: St) S := ev_go i314_1169 rfl
theorem i314_1170 : insAt 314 1170 = some (.ireturn, 1, (0, 0, 0, 0), 0) := rfl
theorem s314_1170 {c : Nat → List AV → SS → Option Out} {l0 l1 l2 l3 l4 l5 l6 l7 : Option AV} {x : Int32} {L2 : List (Nat × AV)} {St : List AV} {S : SS} : ev c 314 1170 [l0, l1, l2, l3, l4, l5, l6, l7] L2 [aI x] S = if x = 0 ∨ x = 1 then some (.inl (some (aI x)), S) else none := ev_rt i314_1170 rfl
theorem i314_1171 : insAt 314 1171 = some (.iload 6, 2, (0, 0, 0, 0), 0) := rfl
theorem s314_1171 {c : Nat → List AV → SS → Option Out} {l0 l1 l2 l3 l4 l5 l7 : Option AV} {x : Int32} {L2 : List (Nat × AV)} {St : List AV} {S : SS} : ev c 314 1171 [l0, l1, l2, l3, l4, l5, some (aI x), l7] L2 St S = ev c 314 1173 [l0, l1, l2, l3, l4, l5, some (aI x), l7] L2 (aI x :: St) S := ev_go i314_1171 rfl
theorem i314_1173 : insAt 314 1173 = some (.ifCond .ne 15, 3, (0, 0, 0, 0), 0) := rfl
theorem s314_1173 {c : Nat → List AV → SS → Option Out} {l0 l1 l2 l3 l4 l5 l6 l7 : Option AV} {x : Int32} {L2 : List (Nat × AV)} {St : List AV} {S : SS} : ev c 314 1173 [l0, l1, l2, l3, l4, l5, l6, l7] L2 (aI x :: St) S = if x = 0 then ev c 314 1176 [l0, l1, l2, l3, l4, l5, l6, l7] L2 St S else ev c 314 1188 [l0, l1, l2, l3, l4, l5, l6, l7] L2 St S := (ev_br i314_1173 rfl).trans (ite_not _ _ _)
theorem i314_1176 : insAt 314 1176 = some (.aload_n 3, 1, (0, 0, 0, 0), 0) := rfl
theorem s314_1176 {c : Nat → List AV → SS → Option Out} {l0 l1 l2 l4 l5 l6 l7 : Option AV} {o : OId} {L2 : List (Nat × AV)} {St : List AV} {S : SS} : ev c 314 1176 [l0, l1, l2, some (aR o), l4, l5, l6, l7] L2 St S = ev c 314 1177 [l0, l1, l2, some (aR o), l4, l5, l6, l7] L2 (aR o :: St) S := ev_go i314_1176 rfl
theorem i314_1177 : insAt 314 1177 = some (.iconst 0, 1, (0, 0, 0, 0), 0) := rfl
theorem s314_1177 {c : Nat → List AV → SS → Option Out} {l0 l1 l2 l3 l4 l5 l6 l7 : Option AV} {L2 : List (Nat × AV)} {St : List AV} {S : SS} : ev c 314 1177 [l0, l1, l2, l3, l4, l5, l6, l7] L2 St S = ev c 314 1178 [l0, l1, l2, l3, l4, l5, l6, l7] L2 (aI 0 :: St) S := ev_go i314_1177 rfl
theorem i314_1178 : insAt 314 1178 = some (.laload, 1, (0, 0, 0, 0), 0) := rfl
theorem s314_1178 {c : Nat → List AV → SS → Option Out} {l0 l1 l2 l3 l4 l5 l6 l7 : Option AV} {i : Int32} {o : OId} {L2 : List (Nat × AV)} {St : List AV} {S : SS} : ev c 314 1178 [l0, l1, l2, l3, l4, l5, l6, l7] L2 (aI i :: aR o :: St) S = kJ o i (ev c 314 1179 [l0, l1, l2, l3, l4, l5, l6, l7] L2 (aL (toL (S.2.1 o i.toNatClampNeg)) :: St) S) := ev_laload i314_1178
theorem i314_1179 : insAt 314 1179 = some (.iload 7, 2, (0, 0, 0, 0), 0) := rfl
theorem s314_1179 {c : Nat → List AV → SS → Option Out} {l0 l1 l2 l3 l4 l5 l6 : Option AV} {x : Int32} {L2 : List (Nat × AV)} {St : List AV} {S : SS} : ev c 314 1179 [l0, l1, l2, l3, l4, l5, l6, some (aI x)] L2 St S = ev c 314 1181 [l0, l1, l2, l3, l4, l5, l6, some (aI x)] L2 (aI x :: St) S := ev_go i314_1179 rfl
theorem i314_1181 : insAt 314 1181 = some (.i2l, 1, (0, 0, 0, 0), 0) := rfl
theorem s314_1181 {c : Nat → List AV → SS → Option Out} {l0 l1 l2 l3 l4 l5 l6 l7 : Option AV} {x : Int32} {L2 : List (Nat × AV)} {St : List AV} {S : SS} : ev c 314 1181 [l0, l1, l2, l3, l4, l5, l6, l7] L2 (aI x :: St) S = ev c 314 1182 [l0, l1, l2, l3, l4, l5, l6, l7] L2 (aL x.toInt64 :: St) S := ev_go i314_1181 rfl
theorem i314_1182 : insAt 314 1182 = some (.lcmp, 1, (0, 0, 0, 0), 0) := rfl
theorem s314_1182 {c : Nat → List AV → SS → Option Out} {l0 l1 l2 l3 l4 l5 l6 l7 : Option AV} {x y : Int64} {L2 : List (Nat × AV)} {St : List AV} {S : SS} : ev c 314 1182 [l0, l1, l2, l3, l4, l5, l6, l7] L2 (aL y :: aL x :: St) S = ev c 314 1183 [l0, l1, l2, l3, l4, l5, l6, l7] L2 (aI (if x < y then -1 else if x = y then 0 else 1) :: St) S := ev_go i314_1182 rfl
theorem i314_1183 : insAt 314 1183 = some (.ifCond .eq 5, 3, (0, 0, 0, 0), 0) := rfl
theorem s314_1183 {c : Nat → List AV → SS → Option Out} {l0 l1 l2 l3 l4 l5 l6 l7 : Option AV} {x : Int32} {L2 : List (Nat × AV)} {St : List AV} {S : SS} : ev c 314 1183 [l0, l1, l2, l3, l4, l5, l6, l7] L2 (aI x :: St) S = if x = 0 then ev c 314 1188 [l0, l1, l2, l3, l4, l5, l6, l7] L2 St S else ev c 314 1186 [l0, l1, l2, l3, l4, l5, l6, l7] L2 St S := ev_br i314_1183 rfl
theorem i314_1186 : insAt 314 1186 = some (.iconst 0, 1, (0, 0, 0, 0), 0) := rfl
theorem s314_1186 {c : Nat → List AV → SS → Option Out} {l0 l1 l2 l3 l4 l5 l6 l7 : Option AV} {L2 : List (Nat × AV)} {St : List AV} {S : SS} : ev c 314 1186 [l0, l1, l2, l3, l4, l5, l6, l7] L2 St S = ev c 314 1187 [l0, l1, l2, l3, l4, l5, l6, l7] L2 (aI 0 :: St) S := ev_go i314_1186 rfl
theorem i314_1187 : insAt 314 1187 = some (.ireturn, 1, (0, 0, 0, 0), 0) := rfl
theorem s314_1187 {c : Nat → List AV → SS → Option Out} {l0 l1 l2 l3 l4 l5 l6 l7 : Option AV} {x : Int32} {L2 : List (Nat × AV)} {St : List AV} {S : SS} : ev c 314 1187 [l0, l1, l2, l3, l4, l5, l6, l7] L2 [aI x] S = if x = 0 ∨ x = 1 then some (.inl (some (aI x)), S) else none := ev_rt i314_1187 rfl
theorem i314_1188 : insAt 314 1188 = some (.goto 1611, 3, (0, 0, 0, 0), 0) := rfl
theorem s314_1188 {c : Nat → List AV → SS → Option Out} {l0 l1 l2 l3 l4 l5 l6 l7 : Option AV} {L2 : List (Nat × AV)} {St : List AV} {S : SS} : ev c 314 1188 [l0, l1, l2, l3, l4, l5, l6, l7] L2 St S = ev c 314 2799 [l0, l1, l2, l3, l4, l5, l6, l7] L2 St S := ev_go i314_1188 rfl
theorem i314_1191 : insAt 314 1191 = some (.aload_n 1, 1, (0, 0, 0, 0), 0) := rfl
theorem s314_1191 {c : Nat → List AV → SS → Option Out} {l0 l2 l3 l4 l5 l6 l7 : Option AV} {o : OId} {L2 : List (Nat × AV)} {St : List AV} {S : SS} : ev c 314 1191 [l0, some (aR o), l2, l3, l4, l5, l6, l7] L2 St S = ev c 314 1192 [l0, some (aR o), l2, l3, l4, l5, l6, l7] L2 (aR o :: St) S := ev_go i314_1191 rfl
theorem i314_1192 : insAt 314 1192 = some (.aload_n 0, 1, (0, 0, 0, 0), 0) := rfl
theorem s314_1192 {c : Nat → List AV → SS → Option Out} {l1 l2 l3 l4 l5 l6 l7 : Option AV} {o : OId} {L2 : List (Nat × AV)} {St : List AV} {S : SS} : ev c 314 1192 [some (aR o), l1, l2, l3, l4, l5, l6, l7] L2 St S = ev c 314 1193 [some (aR o), l1, l2, l3, l4, l5, l6, l7] L2 (aR o :: St) S := ev_go i314_1192 rfl
theorem i314_1193 : insAt 314 1193 = some (.iload 5, 2, (0, 0, 0, 0), 0) := rfl
theorem s314_1193 {c : Nat → List AV → SS → Option Out} {l0 l1 l2 l3 l4 l6 l7 : Option AV} {x : Int32} {L2 : List (Nat × AV)} {St : List AV} {S : SS} : ev c 314 1193 [l0, l1, l2, l3, l4, some (aI x), l6, l7] L2 St S = ev c 314 1195 [l0, l1, l2, l3, l4, some (aI x), l6, l7] L2 (aI x :: St) S := ev_go i314_1193 rfl
theorem i314_1195 : insAt 314 1195 = some (.iconst 1, 1, (0, 0, 0, 0), 0) := rfl
theorem s314_1195 {c : Nat → List AV → SS → Option Out} {l0 l1 l2 l3 l4 l5 l6 l7 : Option AV} {L2 : List (Nat × AV)} {St : List AV} {S : SS} : ev c 314 1195 [l0, l1, l2, l3, l4, l5, l6, l7] L2 St S = ev c 314 1196 [l0, l1, l2, l3, l4, l5, l6, l7] L2 (aI 1 :: St) S := ev_go i314_1195 rfl
theorem i314_1196 : insAt 314 1196 = some (.iadd, 1, (0, 0, 0, 0), 0) := rfl
theorem s314_1196 {c : Nat → List AV → SS → Option Out} {l0 l1 l2 l3 l4 l5 l6 l7 : Option AV} {x y : Int32} {L2 : List (Nat × AV)} {St : List AV} {S : SS} : ev c 314 1196 [l0, l1, l2, l3, l4, l5, l6, l7] L2 (aI y :: aI x :: St) S = ev c 314 1197 [l0, l1, l2, l3, l4, l5, l6, l7] L2 (aI (x + y) :: St) S := ev_go i314_1196 rfl
theorem i314_1197 : insAt 314 1197 = some (.iaload, 1, (0, 0, 0, 0), 0) := rfl
theorem s314_1197 {c : Nat → List AV → SS → Option Out} {l0 l1 l2 l3 l4 l5 l6 l7 : Option AV} {i : Int32} {o : OId} {L2 : List (Nat × AV)} {St : List AV} {S : SS} : ev c 314 1197 [l0, l1, l2, l3, l4, l5, l6, l7] L2 (aI i :: aR o :: St) S = kI o i (ev c 314 1198 [l0, l1, l2, l3, l4, l5, l6, l7] L2 (aI (agI S o i.toNatClampNeg) :: St) S) := ev_iaload i314_1197
theorem i314_1198 : insAt 314 1198 = some (.aload_n 3, 1, (0, 0, 0, 0), 0) := rfl
theorem s314_1198 {c : Nat → List AV → SS → Option Out} {l0 l1 l2 l4 l5 l6 l7 : Option AV} {o : OId} {L2 : List (Nat × AV)} {St : List AV} {S : SS} : ev c 314 1198 [l0, l1, l2, some (aR o), l4, l5, l6, l7] L2 St S = ev c 314 1199 [l0, l1, l2, some (aR o), l4, l5, l6, l7] L2 (aR o :: St) S := ev_go i314_1198 rfl
theorem i314_1199 : insAt 314 1199 = some (.invokestatic 218, 3, (117, 3, 0, 0), 0) := rfl
theorem s314_1199 {c : Nat → List AV → SS → Option Out} {l0 l1 l2 l3 l4 l5 l6 l7 : Option AV} {a0 : OId} {a1 : Int32} {a2 : OId} {L2 : List (Nat × AV)} {S : SS} : ev c 314 1199 [l0, l1, l2, l3, l4, l5, l6, l7] L2 [aR a2, aI a1, aR a0] S = ck (c 117 [aR a0, aI a1, aR a2] S) (fun v S' => ev c 314 1202 [l0, l1, l2, l3, l4, l5, l6, l7] L2 (v.toList ++ []) S') := ev_call i314_1199 rfl
theorem i314_1202 : insAt 314 1202 = some (.istore 6, 2, (0, 0, 0, 0), 0) := rfl
theorem s314_1202 {c : Nat → List AV → SS → Option Out} {l0 l1 l2 l3 l4 l5 l6 l7 : Option AV} {x : Int32} {L2 : List (Nat × AV)} {St : List AV} {S : SS} : ev c 314 1202 [l0, l1, l2, l3, l4, l5, l6, l7] L2 (aI x :: St) S = ev c 314 1204 [l0, l1, l2, l3, l4, l5, some (aI x), l7] (kil L2 6) St S := ev_go i314_1202 rfl
theorem i314_1204 : insAt 314 1204 = some (.aload_n 2, 1, (0, 0, 0, 0), 0) := rfl
theorem s314_1204 {c : Nat → List AV → SS → Option Out} {l0 l1 l3 l4 l5 l6 l7 : Option AV} {o : OId} {L2 : List (Nat × AV)} {St : List AV} {S : SS} : ev c 314 1204 [l0, l1, some (aR o), l3, l4, l5, l6, l7] L2 St S = ev c 314 1205 [l0, l1, some (aR o), l3, l4, l5, l6, l7] L2 (aR o :: St) S := ev_go i314_1204 rfl
theorem i314_1205 : insAt 314 1205 = some (.aload_n 0, 1, (0, 0, 0, 0), 0) := rfl
theorem s314_1205 {c : Nat → List AV → SS → Option Out} {l1 l2 l3 l4 l5 l6 l7 : Option AV} {o : OId} {L2 : List (Nat × AV)} {St : List AV} {S : SS} : ev c 314 1205 [some (aR o), l1, l2, l3, l4, l5, l6, l7] L2 St S = ev c 314 1206 [some (aR o), l1, l2, l3, l4, l5, l6, l7] L2 (aR o :: St) S := ev_go i314_1205 rfl
theorem i314_1206 : insAt 314 1206 = some (.iload 5, 2, (0, 0, 0, 0), 0) := rfl
theorem s314_1206 {c : Nat → List AV → SS → Option Out} {l0 l1 l2 l3 l4 l6 l7 : Option AV} {x : Int32} {L2 : List (Nat × AV)} {St : List AV} {S : SS} : ev c 314 1206 [l0, l1, l2, l3, l4, some (aI x), l6, l7] L2 St S = ev c 314 1208 [l0, l1, l2, l3, l4, some (aI x), l6, l7] L2 (aI x :: St) S := ev_go i314_1206 rfl
theorem i314_1208 : insAt 314 1208 = some (.iconst 1, 1, (0, 0, 0, 0), 0) := rfl
theorem s314_1208 {c : Nat → List AV → SS → Option Out} {l0 l1 l2 l3 l4 l5 l6 l7 : Option AV} {L2 : List (Nat × AV)} {St : List AV} {S : SS} : ev c 314 1208 [l0, l1, l2, l3, l4, l5, l6, l7] L2 St S = ev c 314 1209 [l0, l1, l2, l3, l4, l5, l6, l7] L2 (aI 1 :: St) S := ev_go i314_1208 rfl
theorem i314_1209 : insAt 314 1209 = some (.iadd, 1, (0, 0, 0, 0), 0) := rfl
theorem s314_1209 {c : Nat → List AV → SS → Option Out} {l0 l1 l2 l3 l4 l5 l6 l7 : Option AV} {x y : Int32} {L2 : List (Nat × AV)} {St : List AV} {S : SS} : ev c 314 1209 [l0, l1, l2, l3, l4, l5, l6, l7] L2 (aI y :: aI x :: St) S = ev c 314 1210 [l0, l1, l2, l3, l4, l5, l6, l7] L2 (aI (x + y) :: St) S := ev_go i314_1209 rfl
theorem i314_1210 : insAt 314 1210 = some (.iaload, 1, (0, 0, 0, 0), 0) := rfl
theorem s314_1210 {c : Nat → List AV → SS → Option Out} {l0 l1 l2 l3 l4 l5 l6 l7 : Option AV} {i : Int32} {o : OId} {L2 : List (Nat × AV)} {St : List AV} {S : SS} : ev c 314 1210 [l0, l1, l2, l3, l4, l5, l6, l7] L2 (aI i :: aR o :: St) S = kI o i (ev c 314 1211 [l0, l1, l2, l3, l4, l5, l6, l7] L2 (aI (agI S o i.toNatClampNeg) :: St) S) := ev_iaload i314_1210
theorem i314_1211 : insAt 314 1211 = some (.invokevirtual 220, 3, (274, 1, 2, 12), 0) := rfl
theorem s314_1211 {c : Nat → List AV → SS → Option Out} {l0 l1 l2 l3 l4 l5 l6 l7 : Option AV} {a0 : Int32} {j t : Nat} {L2 : List (Nat × AV)} {S : SS} : ev c 314 1211 [l0, l1, l2, l3, l4, l5, l6, l7] L2 [aI a0, aR (12, j, t)] S = ck (c 274 [aR (12, j, t), aI a0] S) (fun v S' => ev c 314 1214 [l0, l1, l2, l3, l4, l5, l6, l7] L2 (v.toList ++ []) S') := ev_call i314_1211 rfl
theorem i314_1214 : insAt 314 1214 = some (.istore 7, 2, (0, 0, 0, 0), 0) := rfl
theorem s314_1214 {c : Nat → List AV → SS → Option Out} {l0 l1 l2 l3 l4 l5 l6 l7 : Option AV} {x : Int32} {L2 : List (Nat × AV)} {St : List AV} {S : SS} : ev c 314 1214 [l0, l1, l2, l3, l4, l5, l6, l7] L2 (aI x :: St) S = ev c 314 1216 [l0, l1, l2, l3, l4, l5, l6, some (aI x)] (kil L2 7) St S := ev_go i314_1214 rfl
theorem i314_1216 : insAt 314 1216 = some (.aload_n 2, 1, (0, 0, 0, 0), 0) := rfl
theorem s314_1216 {c : Nat → List AV → SS → Option Out} {l0 l1 l3 l4 l5 l6 l7 : Option AV} {o : OId} {L2 : List (Nat × AV)} {St : List AV} {S : SS} : ev c 314 1216 [l0, l1, some (aR o), l3, l4, l5, l6, l7] L2 St S = ev c 314 1217 [l0, l1, some (aR o), l3, l4, l5, l6, l7] L2 (aR o :: St) S := ev_go i314_1216 rfl
theorem i314_1217 : insAt 314 1217 = some (.invokevirtual 149, 3, (218, 0, 2, 12), 0) := rfl
theorem s314_1217 {c : Nat → List AV → SS → Option Out} {l0 l1 l2 l3 l4 l5 l6 l7 : Option AV} {j t : Nat} {L2 : List (Nat × AV)} {S : SS} : ev c 314 1217 [l0, l1, l2, l3, l4, l5, l6, l7] L2 [aR (12, j, t)] S = ck (c 218 [aR (12, j, t)] S) (fun v S' => ev c 314 1220 [l0, l1, l2, l3, l4, l5, l6, l7] L2 (v.toList ++ []) S') := ev_call i314_1217 rfl
theorem i314_1220 : insAt 314 1220 = some (.iload 6, 2, (0, 0, 0, 0), 0) := rfl
theorem s314_1220 {c : Nat → List AV → SS → Option Out} {l0 l1 l2 l3 l4 l5 l7 : Option AV} {x : Int32} {L2 : List (Nat × AV)} {St : List AV} {S : SS} : ev c 314 1220 [l0, l1, l2, l3, l4, l5, some (aI x), l7] L2 St S = ev c 314 1222 [l0, l1, l2, l3, l4, l5, some (aI x), l7] L2 (aI x :: St) S := ev_go i314_1220 rfl
theorem i314_1222 : insAt 314 1222 = some (.if_icmp .eq 5, 3, (0, 0, 0, 0), 0) := rfl
theorem s314_1222 {c : Nat → List AV → SS → Option Out} {l0 l1 l2 l3 l4 l5 l6 l7 : Option AV} {x y : Int32} {L2 : List (Nat × AV)} {St : List AV} {S : SS} : ev c 314 1222 [l0, l1, l2, l3, l4, l5, l6, l7] L2 (aI y :: aI x :: St) S = if x = y then ev c 314 1227 [l0, l1, l2, l3, l4, l5, l6, l7] L2 St S else ev c 314 1225 [l0, l1, l2, l3, l4, l5, l6, l7] L2 St S := ev_br i314_1222 rfl
theorem i314_1225 : insAt 314 1225 = some (.iconst 0, 1, (0, 0, 0, 0), 0) := rfl
theorem s314_1225 {c : Nat → List AV → SS → Option Out} {l0 l1 l2 l3 l4 l5 l6 l7 : Option AV} {L2 : List (Nat × AV)} {St : List AV} {S : SS} : ev c 314 1225 [l0, l1, l2, l3, l4, l5, l6, l7] L2 St S = ev c 314 1226 [l0, l1, l2, l3, l4, l5, l6, l7] L2 (aI 0 :: St) S := ev_go i314_1225 rfl
theorem i314_1226 : insAt 314 1226 = some (.ireturn, 1, (0, 0, 0, 0), 0) := rfl
theorem s314_1226 {c : Nat → List AV → SS → Option Out} {l0 l1 l2 l3 l4 l5 l6 l7 : Option AV} {x : Int32} {L2 : List (Nat × AV)} {St : List AV} {S : SS} : ev c 314 1226 [l0, l1, l2, l3, l4, l5, l6, l7] L2 [aI x] S = if x = 0 ∨ x = 1 then some (.inl (some (aI x)), S) else none := ev_rt i314_1226 rfl
theorem i314_1227 : insAt 314 1227 = some (.iload 6, 2, (0, 0, 0, 0), 0) := rfl
theorem s314_1227 {c : Nat → List AV → SS → Option Out} {l0 l1 l2 l3 l4 l5 l7 : Option AV} {x : Int32} {L2 : List (Nat × AV)} {St : List AV} {S : SS} : ev c 314 1227 [l0, l1, l2, l3, l4, l5, some (aI x), l7] L2 St S = ev c 314 1229 [l0, l1, l2, l3, l4, l5, some (aI x), l7] L2 (aI x :: St) S := ev_go i314_1227 rfl
theorem i314_1229 : insAt 314 1229 = some (.ifCond .ne 22, 3, (0, 0, 0, 0), 0) := rfl
theorem s314_1229 {c : Nat → List AV → SS → Option Out} {l0 l1 l2 l3 l4 l5 l6 l7 : Option AV} {x : Int32} {L2 : List (Nat × AV)} {St : List AV} {S : SS} : ev c 314 1229 [l0, l1, l2, l3, l4, l5, l6, l7] L2 (aI x :: St) S = if x = 0 then ev c 314 1232 [l0, l1, l2, l3, l4, l5, l6, l7] L2 St S else ev c 314 1251 [l0, l1, l2, l3, l4, l5, l6, l7] L2 St S := (ev_br i314_1229 rfl).trans (ite_not _ _ _)
theorem i314_1232 : insAt 314 1232 = some (.aload_n 3, 1, (0, 0, 0, 0), 0) := rfl
theorem s314_1232 {c : Nat → List AV → SS → Option Out} {l0 l1 l2 l4 l5 l6 l7 : Option AV} {o : OId} {L2 : List (Nat × AV)} {St : List AV} {S : SS} : ev c 314 1232 [l0, l1, l2, some (aR o), l4, l5, l6, l7] L2 St S = ev c 314 1233 [l0, l1, l2, some (aR o), l4, l5, l6, l7] L2 (aR o :: St) S := ev_go i314_1232 rfl
theorem i314_1233 : insAt 314 1233 = some (.iconst 0, 1, (0, 0, 0, 0), 0) := rfl
theorem s314_1233 {c : Nat → List AV → SS → Option Out} {l0 l1 l2 l3 l4 l5 l6 l7 : Option AV} {L2 : List (Nat × AV)} {St : List AV} {S : SS} : ev c 314 1233 [l0, l1, l2, l3, l4, l5, l6, l7] L2 St S = ev c 314 1234 [l0, l1, l2, l3, l4, l5, l6, l7] L2 (aI 0 :: St) S := ev_go i314_1233 rfl
theorem i314_1234 : insAt 314 1234 = some (.laload, 1, (0, 0, 0, 0), 0) := rfl
theorem s314_1234 {c : Nat → List AV → SS → Option Out} {l0 l1 l2 l3 l4 l5 l6 l7 : Option AV} {i : Int32} {o : OId} {L2 : List (Nat × AV)} {St : List AV} {S : SS} : ev c 314 1234 [l0, l1, l2, l3, l4, l5, l6, l7] L2 (aI i :: aR o :: St) S = kJ o i (ev c 314 1235 [l0, l1, l2, l3, l4, l5, l6, l7] L2 (aL (toL (S.2.1 o i.toNatClampNeg)) :: St) S) := ev_laload i314_1234
theorem i314_1235 : insAt 314 1235 = some (.iload 7, 2, (0, 0, 0, 0), 0) := rfl
theorem s314_1235 {c : Nat → List AV → SS → Option Out} {l0 l1 l2 l3 l4 l5 l6 : Option AV} {x : Int32} {L2 : List (Nat × AV)} {St : List AV} {S : SS} : ev c 314 1235 [l0, l1, l2, l3, l4, l5, l6, some (aI x)] L2 St S = ev c 314 1237 [l0, l1, l2, l3, l4, l5, l6, some (aI x)] L2 (aI x :: St) S := ev_go i314_1235 rfl
theorem i314_1237 : insAt 314 1237 = some (.ifCond .eq 7, 3, (0, 0, 0, 0), 0) := rfl
theorem s314_1237 {c : Nat → List AV → SS → Option Out} {l0 l1 l2 l3 l4 l5 l6 l7 : Option AV} {x : Int32} {L2 : List (Nat × AV)} {St : List AV} {S : SS} : ev c 314 1237 [l0, l1, l2, l3, l4, l5, l6, l7] L2 (aI x :: St) S = if x = 0 then ev c 314 1244 [l0, l1, l2, l3, l4, l5, l6, l7] L2 St S else ev c 314 1240 [l0, l1, l2, l3, l4, l5, l6, l7] L2 St S := ev_br i314_1237 rfl
theorem i314_1240 : insAt 314 1240 = some (.lconst 1, 1, (0, 0, 0, 0), 0) := rfl
theorem s314_1240 {c : Nat → List AV → SS → Option Out} {l0 l1 l2 l3 l4 l5 l6 l7 : Option AV} {L2 : List (Nat × AV)} {St : List AV} {S : SS} : ev c 314 1240 [l0, l1, l2, l3, l4, l5, l6, l7] L2 St S = ev c 314 1241 [l0, l1, l2, l3, l4, l5, l6, l7] L2 (aL 1 :: St) S := ev_go i314_1240 rfl
theorem i314_1241 : insAt 314 1241 = some (.goto 4, 3, (0, 0, 0, 0), 0) := rfl
theorem s314_1241 {c : Nat → List AV → SS → Option Out} {l0 l1 l2 l3 l4 l5 l6 l7 : Option AV} {L2 : List (Nat × AV)} {St : List AV} {S : SS} : ev c 314 1241 [l0, l1, l2, l3, l4, l5, l6, l7] L2 St S = ev c 314 1245 [l0, l1, l2, l3, l4, l5, l6, l7] L2 St S := ev_go i314_1241 rfl
theorem i314_1244 : insAt 314 1244 = some (.lconst 0, 1, (0, 0, 0, 0), 0) := rfl
theorem s314_1244 {c : Nat → List AV → SS → Option Out} {l0 l1 l2 l3 l4 l5 l6 l7 : Option AV} {L2 : List (Nat × AV)} {St : List AV} {S : SS} : ev c 314 1244 [l0, l1, l2, l3, l4, l5, l6, l7] L2 St S = ev c 314 1245 [l0, l1, l2, l3, l4, l5, l6, l7] L2 (aL 0 :: St) S := ev_go i314_1244 rfl
theorem i314_1245 : insAt 314 1245 = some (.lcmp, 1, (0, 0, 0, 0), 0) := rfl
theorem s314_1245 {c : Nat → List AV → SS → Option Out} {l0 l1 l2 l3 l4 l5 l6 l7 : Option AV} {x y : Int64} {L2 : List (Nat × AV)} {St : List AV} {S : SS} : ev c 314 1245 [l0, l1, l2, l3, l4, l5, l6, l7] L2 (aL y :: aL x :: St) S = ev c 314 1246 [l0, l1, l2, l3, l4, l5, l6, l7] L2 (aI (if x < y then -1 else if x = y then 0 else 1) :: St) S := ev_go i314_1245 rfl
theorem i314_1246 : insAt 314 1246 = some (.ifCond .eq 5, 3, (0, 0, 0, 0), 0) := rfl
theorem s314_1246 {c : Nat → List AV → SS → Option Out} {l0 l1 l2 l3 l4 l5 l6 l7 : Option AV} {x : Int32} {L2 : List (Nat × AV)} {St : List AV} {S : SS} : ev c 314 1246 [l0, l1, l2, l3, l4, l5, l6, l7] L2 (aI x :: St) S = if x = 0 then ev c 314 1251 [l0, l1, l2, l3, l4, l5, l6, l7] L2 St S else ev c 314 1249 [l0, l1, l2, l3, l4, l5, l6, l7] L2 St S := ev_br i314_1246 rfl
theorem i314_1249 : insAt 314 1249 = some (.iconst 0, 1, (0, 0, 0, 0), 0) := rfl
theorem s314_1249 {c : Nat → List AV → SS → Option Out} {l0 l1 l2 l3 l4 l5 l6 l7 : Option AV} {L2 : List (Nat × AV)} {St : List AV} {S : SS} : ev c 314 1249 [l0, l1, l2, l3, l4, l5, l6, l7] L2 St S = ev c 314 1250 [l0, l1, l2, l3, l4, l5, l6, l7] L2 (aI 0 :: St) S := ev_go i314_1249 rfl
theorem i314_1250 : insAt 314 1250 = some (.ireturn, 1, (0, 0, 0, 0), 0) := rfl
theorem s314_1250 {c : Nat → List AV → SS → Option Out} {l0 l1 l2 l3 l4 l5 l6 l7 : Option AV} {x : Int32} {L2 : List (Nat × AV)} {St : List AV} {S : SS} : ev c 314 1250 [l0, l1, l2, l3, l4, l5, l6, l7] L2 [aI x] S = if x = 0 ∨ x = 1 then some (.inl (some (aI x)), S) else none := ev_rt i314_1250 rfl
theorem i314_1251 : insAt 314 1251 = some (.goto 1548, 3, (0, 0, 0, 0), 0) := rfl
theorem s314_1251 {c : Nat → List AV → SS → Option Out} {l0 l1 l2 l3 l4 l5 l6 l7 : Option AV} {L2 : List (Nat × AV)} {St : List AV} {S : SS} : ev c 314 1251 [l0, l1, l2, l3, l4, l5, l6, l7] L2 St S = ev c 314 2799 [l0, l1, l2, l3, l4, l5, l6, l7] L2 St S := ev_go i314_1251 rfl
theorem i314_1254 : insAt 314 1254 = some (.aload_n 1, 1, (0, 0, 0, 0), 0) := rfl
theorem s314_1254 {c : Nat → List AV → SS → Option Out} {l0 l2 l3 l4 l5 l6 l7 : Option AV} {o : OId} {L2 : List (Nat × AV)} {St : List AV} {S : SS} : ev c 314 1254 [l0, some (aR o), l2, l3, l4, l5, l6, l7] L2 St S = ev c 314 1255 [l0, some (aR o), l2, l3, l4, l5, l6, l7] L2 (aR o :: St) S := ev_go i314_1254 rfl
theorem i314_1255 : insAt 314 1255 = some (.invokevirtual 221, 3, (20, 0, 2, 11), 0) := rfl
theorem s314_1255 {c : Nat → List AV → SS → Option Out} {l0 l1 l2 l3 l4 l5 l6 l7 : Option AV} {j t : Nat} {L2 : List (Nat × AV)} {S : SS} : ev c 314 1255 [l0, l1, l2, l3, l4, l5, l6, l7] L2 [aR (11, j, t)] S = ck (c 20 [aR (11, j, t)] S) (fun v S' => ev c 314 1258 [l0, l1, l2, l3, l4, l5, l6, l7] L2 (v.toList ++ []) S') := ev_call i314_1255 rfl
theorem i314_1258 : insAt 314 1258 = some (.aload_n 2, 1, (0, 0, 0, 0), 0) := rfl
theorem s314_1258 {c : Nat → List AV → SS → Option Out} {l0 l1 l3 l4 l5 l6 l7 : Option AV} {o : OId} {L2 : List (Nat × AV)} {St : List AV} {S : SS} : ev c 314 1258 [l0, l1, some (aR o), l3, l4, l5, l6, l7] L2 St S = ev c 314 1259 [l0, l1, some (aR o), l3, l4, l5, l6, l7] L2 (aR o :: St) S := ev_go i314_1258 rfl
theorem i314_1259 : insAt 314 1259 = some (.invokevirtual 224, 3, (275, 0, 2, 12), 0) := rfl
theorem s314_1259 {c : Nat → List AV → SS → Option Out} {l0 l1 l2 l3 l4 l5 l6 l7 : Option AV} {t0 : AV} {j t : Nat} {L2 : List (Nat × AV)} {S : SS} : ev c 314 1259 [l0, l1, l2, l3, l4, l5, l6, l7] L2 [aR (12, j, t), t0] S = ck (c 275 [aR (12, j, t)] S) (fun v S' => ev c 314 1262 [l0, l1, l2, l3, l4, l5, l6, l7] L2 (v.toList ++ [t0]) S') := ev_call i314_1259 rfl
theorem i314_1262 : insAt 314 1262 = some (.if_icmp .eq 1537, 3, (0, 0, 0, 0), 0) := rfl
theorem s314_1262 {c : Nat → List AV → SS → Option Out} {l0 l1 l2 l3 l4 l5 l6 l7 : Option AV} {x y : Int32} {L2 : List (Nat × AV)} {St : List AV} {S : SS} : ev c 314 1262 [l0, l1, l2, l3, l4, l5, l6, l7] L2 (aI y :: aI x :: St) S = if x = y then ev c 314 2799 [l0, l1, l2, l3, l4, l5, l6, l7] L2 St S else ev c 314 1265 [l0, l1, l2, l3, l4, l5, l6, l7] L2 St S := ev_br i314_1262 rfl
theorem i314_1265 : insAt 314 1265 = some (.iconst 0, 1, (0, 0, 0, 0), 0) := rfl
theorem s314_1265 {c : Nat → List AV → SS → Option Out} {l0 l1 l2 l3 l4 l5 l6 l7 : Option AV} {L2 : List (Nat × AV)} {St : List AV} {S : SS} : ev c 314 1265 [l0, l1, l2, l3, l4, l5, l6, l7] L2 St S = ev c 314 1266 [l0, l1, l2, l3, l4, l5, l6, l7] L2 (aI 0 :: St) S := ev_go i314_1265 rfl
theorem i314_1266 : insAt 314 1266 = some (.ireturn, 1, (0, 0, 0, 0), 0) := rfl
theorem s314_1266 {c : Nat → List AV → SS → Option Out} {l0 l1 l2 l3 l4 l5 l6 l7 : Option AV} {x : Int32} {L2 : List (Nat × AV)} {St : List AV} {S : SS} : ev c 314 1266 [l0, l1, l2, l3, l4, l5, l6, l7] L2 [aI x] S = if x = 0 ∨ x = 1 then some (.inl (some (aI x)), S) else none := ev_rt i314_1266 rfl
theorem i314_1267 : insAt 314 1267 = some (.aload_n 1, 1, (0, 0, 0, 0), 0) := rfl
theorem s314_1267 {c : Nat → List AV → SS → Option Out} {l0 l2 l3 l4 l5 l6 l7 : Option AV} {o : OId} {L2 : List (Nat × AV)} {St : List AV} {S : SS} : ev c 314 1267 [l0, some (aR o), l2, l3, l4, l5, l6, l7] L2 St S = ev c 314 1268 [l0, some (aR o), l2, l3, l4, l5, l6, l7] L2 (aR o :: St) S := ev_go i314_1267 rfl
theorem i314_1268 : insAt 314 1268 = some (.invokevirtual 225, 3, (21, 0, 2, 11), 0) := rfl
theorem s314_1268 {c : Nat → List AV → SS → Option Out} {l0 l1 l2 l3 l4 l5 l6 l7 : Option AV} {j t : Nat} {L2 : List (Nat × AV)} {S : SS} : ev c 314 1268 [l0, l1, l2, l3, l4, l5, l6, l7] L2 [aR (11, j, t)] S = ck (c 21 [aR (11, j, t)] S) (fun v S' => ev c 314 1271 [l0, l1, l2, l3, l4, l5, l6, l7] L2 (v.toList ++ []) S') := ev_call i314_1268 rfl
theorem i314_1271 : insAt 314 1271 = some (.aload_n 2, 1, (0, 0, 0, 0), 0) := rfl
theorem s314_1271 {c : Nat → List AV → SS → Option Out} {l0 l1 l3 l4 l5 l6 l7 : Option AV} {o : OId} {L2 : List (Nat × AV)} {St : List AV} {S : SS} : ev c 314 1271 [l0, l1, some (aR o), l3, l4, l5, l6, l7] L2 St S = ev c 314 1272 [l0, l1, some (aR o), l3, l4, l5, l6, l7] L2 (aR o :: St) S := ev_go i314_1271 rfl
theorem i314_1272 : insAt 314 1272 = some (.invokevirtual 228, 3, (276, 0, 2, 12), 0) := rfl
theorem s314_1272 {c : Nat → List AV → SS → Option Out} {l0 l1 l2 l3 l4 l5 l6 l7 : Option AV} {t0 : AV} {j t : Nat} {L2 : List (Nat × AV)} {S : SS} : ev c 314 1272 [l0, l1, l2, l3, l4, l5, l6, l7] L2 [aR (12, j, t), t0] S = ck (c 276 [aR (12, j, t)] S) (fun v S' => ev c 314 1275 [l0, l1, l2, l3, l4, l5, l6, l7] L2 (v.toList ++ [t0]) S') := ev_call i314_1272 rfl
theorem i314_1275 : insAt 314 1275 = some (.if_icmp .eq 1524, 3, (0, 0, 0, 0), 0) := rfl
theorem s314_1275 {c : Nat → List AV → SS → Option Out} {l0 l1 l2 l3 l4 l5 l6 l7 : Option AV} {x y : Int32} {L2 : List (Nat × AV)} {St : List AV} {S : SS} : ev c 314 1275 [l0, l1, l2, l3, l4, l5, l6, l7] L2 (aI y :: aI x :: St) S = if x = y then ev c 314 2799 [l0, l1, l2, l3, l4, l5, l6, l7] L2 St S else ev c 314 1278 [l0, l1, l2, l3, l4, l5, l6, l7] L2 St S := ev_br i314_1275 rfl
theorem i314_1278 : insAt 314 1278 = some (.iconst 0, 1, (0, 0, 0, 0), 0) := rfl
theorem s314_1278 {c : Nat → List AV → SS → Option Out} {l0 l1 l2 l3 l4 l5 l6 l7 : Option AV} {L2 : List (Nat × AV)} {St : List AV} {S : SS} : ev c 314 1278 [l0, l1, l2, l3, l4, l5, l6, l7] L2 St S = ev c 314 1279 [l0, l1, l2, l3, l4, l5, l6, l7] L2 (aI 0 :: St) S := ev_go i314_1278 rfl
theorem i314_1279 : insAt 314 1279 = some (.ireturn, 1, (0, 0, 0, 0), 0) := rfl
theorem s314_1279 {c : Nat → List AV → SS → Option Out} {l0 l1 l2 l3 l4 l5 l6 l7 : Option AV} {x : Int32} {L2 : List (Nat × AV)} {St : List AV} {S : SS} : ev c 314 1279 [l0, l1, l2, l3, l4, l5, l6, l7] L2 [aI x] S = if x = 0 ∨ x = 1 then some (.inl (some (aI x)), S) else none := ev_rt i314_1279 rfl
theorem i314_1280 : insAt 314 1280 = some (.aload_n 1, 1, (0, 0, 0, 0), 0) := rfl
theorem s314_1280 {c : Nat → List AV → SS → Option Out} {l0 l2 l3 l4 l5 l6 l7 : Option AV} {o : OId} {L2 : List (Nat × AV)} {St : List AV} {S : SS} : ev c 314 1280 [l0, some (aR o), l2, l3, l4, l5, l6, l7] L2 St S = ev c 314 1281 [l0, some (aR o), l2, l3, l4, l5, l6, l7] L2 (aR o :: St) S := ev_go i314_1280 rfl
theorem i314_1281 : insAt 314 1281 = some (.aload_n 0, 1, (0, 0, 0, 0), 0) := rfl
theorem s314_1281 {c : Nat → List AV → SS → Option Out} {l1 l2 l3 l4 l5 l6 l7 : Option AV} {o : OId} {L2 : List (Nat × AV)} {St : List AV} {S : SS} : ev c 314 1281 [some (aR o), l1, l2, l3, l4, l5, l6, l7] L2 St S = ev c 314 1282 [some (aR o), l1, l2, l3, l4, l5, l6, l7] L2 (aR o :: St) S := ev_go i314_1281 rfl
theorem i314_1282 : insAt 314 1282 = some (.iload 5, 2, (0, 0, 0, 0), 0) := rfl
theorem s314_1282 {c : Nat → List AV → SS → Option Out} {l0 l1 l2 l3 l4 l6 l7 : Option AV} {x : Int32} {L2 : List (Nat × AV)} {St : List AV} {S : SS} : ev c 314 1282 [l0, l1, l2, l3, l4, some (aI x), l6, l7] L2 St S = ev c 314 1284 [l0, l1, l2, l3, l4, some (aI x), l6, l7] L2 (aI x :: St) S := ev_go i314_1282 rfl
theorem i314_1284 : insAt 314 1284 = some (.iconst 1, 1, (0, 0, 0, 0), 0) := rfl
theorem s314_1284 {c : Nat → List AV → SS → Option Out} {l0 l1 l2 l3 l4 l5 l6 l7 : Option AV} {L2 : List (Nat × AV)} {St : List AV} {S : SS} : ev c 314 1284 [l0, l1, l2, l3, l4, l5, l6, l7] L2 St S = ev c 314 1285 [l0, l1, l2, l3, l4, l5, l6, l7] L2 (aI 1 :: St) S := ev_go i314_1284 rfl
theorem i314_1285 : insAt 314 1285 = some (.iadd, 1, (0, 0, 0, 0), 0) := rfl
theorem s314_1285 {c : Nat → List AV → SS → Option Out} {l0 l1 l2 l3 l4 l5 l6 l7 : Option AV} {x y : Int32} {L2 : List (Nat × AV)} {St : List AV} {S : SS} : ev c 314 1285 [l0, l1, l2, l3, l4, l5, l6, l7] L2 (aI y :: aI x :: St) S = ev c 314 1286 [l0, l1, l2, l3, l4, l5, l6, l7] L2 (aI (x + y) :: St) S := ev_go i314_1285 rfl
theorem i314_1286 : insAt 314 1286 = some (.iaload, 1, (0, 0, 0, 0), 0) := rfl
theorem s314_1286 {c : Nat → List AV → SS → Option Out} {l0 l1 l2 l3 l4 l5 l6 l7 : Option AV} {i : Int32} {o : OId} {L2 : List (Nat × AV)} {St : List AV} {S : SS} : ev c 314 1286 [l0, l1, l2, l3, l4, l5, l6, l7] L2 (aI i :: aR o :: St) S = kI o i (ev c 314 1287 [l0, l1, l2, l3, l4, l5, l6, l7] L2 (aI (agI S o i.toNatClampNeg) :: St) S) := ev_iaload i314_1286
theorem i314_1287 : insAt 314 1287 = some (.aload_n 0, 1, (0, 0, 0, 0), 0) := rfl
theorem s314_1287 {c : Nat → List AV → SS → Option Out} {l1 l2 l3 l4 l5 l6 l7 : Option AV} {o : OId} {L2 : List (Nat × AV)} {St : List AV} {S : SS} : ev c 314 1287 [some (aR o), l1, l2, l3, l4, l5, l6, l7] L2 St S = ev c 314 1288 [some (aR o), l1, l2, l3, l4, l5, l6, l7] L2 (aR o :: St) S := ev_go i314_1287 rfl
theorem i314_1288 : insAt 314 1288 = some (.iload 5, 2, (0, 0, 0, 0), 0) := rfl
theorem s314_1288 {c : Nat → List AV → SS → Option Out} {l0 l1 l2 l3 l4 l6 l7 : Option AV} {x : Int32} {L2 : List (Nat × AV)} {St : List AV} {S : SS} : ev c 314 1288 [l0, l1, l2, l3, l4, some (aI x), l6, l7] L2 St S = ev c 314 1290 [l0, l1, l2, l3, l4, some (aI x), l6, l7] L2 (aI x :: St) S := ev_go i314_1288 rfl
theorem i314_1290 : insAt 314 1290 = some (.iconst 2, 1, (0, 0, 0, 0), 0) := rfl
theorem s314_1290 {c : Nat → List AV → SS → Option Out} {l0 l1 l2 l3 l4 l5 l6 l7 : Option AV} {L2 : List (Nat × AV)} {St : List AV} {S : SS} : ev c 314 1290 [l0, l1, l2, l3, l4, l5, l6, l7] L2 St S = ev c 314 1291 [l0, l1, l2, l3, l4, l5, l6, l7] L2 (aI 2 :: St) S := ev_go i314_1290 rfl
theorem i314_1291 : insAt 314 1291 = some (.iadd, 1, (0, 0, 0, 0), 0) := rfl
theorem s314_1291 {c : Nat → List AV → SS → Option Out} {l0 l1 l2 l3 l4 l5 l6 l7 : Option AV} {x y : Int32} {L2 : List (Nat × AV)} {St : List AV} {S : SS} : ev c 314 1291 [l0, l1, l2, l3, l4, l5, l6, l7] L2 (aI y :: aI x :: St) S = ev c 314 1292 [l0, l1, l2, l3, l4, l5, l6, l7] L2 (aI (x + y) :: St) S := ev_go i314_1291 rfl
theorem i314_1292 : insAt 314 1292 = some (.iaload, 1, (0, 0, 0, 0), 0) := rfl
theorem s314_1292 {c : Nat → List AV → SS → Option Out} {l0 l1 l2 l3 l4 l5 l6 l7 : Option AV} {i : Int32} {o : OId} {L2 : List (Nat × AV)} {St : List AV} {S : SS} : ev c 314 1292 [l0, l1, l2, l3, l4, l5, l6, l7] L2 (aI i :: aR o :: St) S = kI o i (ev c 314 1293 [l0, l1, l2, l3, l4, l5, l6, l7] L2 (aI (agI S o i.toNatClampNeg) :: St) S) := ev_iaload i314_1292
theorem i314_1293 : insAt 314 1293 = some (.aload_n 3, 1, (0, 0, 0, 0), 0) := rfl
theorem s314_1293 {c : Nat → List AV → SS → Option Out} {l0 l1 l2 l4 l5 l6 l7 : Option AV} {o : OId} {L2 : List (Nat × AV)} {St : List AV} {S : SS} : ev c 314 1293 [l0, l1, l2, some (aR o), l4, l5, l6, l7] L2 St S = ev c 314 1294 [l0, l1, l2, some (aR o), l4, l5, l6, l7] L2 (aR o :: St) S := ev_go i314_1293 rfl
theorem i314_1294 : insAt 314 1294 = some (.invokestatic 229, 3, (119, 4, 0, 0), 0) := rfl
theorem s314_1294 {c : Nat → List AV → SS → Option Out} {l0 l1 l2 l3 l4 l5 l6 l7 : Option AV} {a0 : OId} {a1 : Int32} {a2 : Int32} {a3 : OId} {L2 : List (Nat × AV)} {S : SS} : ev c 314 1294 [l0, l1, l2, l3, l4, l5, l6, l7] L2 [aR a3, aI a2, aI a1, aR a0] S = ck (c 119 [aR a0, aI a1, aI a2, aR a3] S) (fun v S' => ev c 314 1297 [l0, l1, l2, l3, l4, l5, l6, l7] L2 (v.toList ++ []) S') := ev_call i314_1294 rfl
theorem i314_1297 : insAt 314 1297 = some (.istore 6, 2, (0, 0, 0, 0), 0) := rfl
theorem s314_1297 {c : Nat → List AV → SS → Option Out} {l0 l1 l2 l3 l4 l5 l6 l7 : Option AV} {x : Int32} {L2 : List (Nat × AV)} {St : List AV} {S : SS} : ev c 314 1297 [l0, l1, l2, l3, l4, l5, l6, l7] L2 (aI x :: St) S = ev c 314 1299 [l0, l1, l2, l3, l4, l5, some (aI x), l7] (kil L2 6) St S := ev_go i314_1297 rfl
theorem i314_1299 : insAt 314 1299 = some (.aload_n 2, 1, (0, 0, 0, 0), 0) := rfl
theorem s314_1299 {c : Nat → List AV → SS → Option Out} {l0 l1 l3 l4 l5 l6 l7 : Option AV} {o : OId} {L2 : List (Nat × AV)} {St : List AV} {S : SS} : ev c 314 1299 [l0, l1, some (aR o), l3, l4, l5, l6, l7] L2 St S = ev c 314 1300 [l0, l1, some (aR o), l3, l4, l5, l6, l7] L2 (aR o :: St) S := ev_go i314_1299 rfl
theorem i314_1300 : insAt 314 1300 = some (.aload_n 0, 1, (0, 0, 0, 0), 0) := rfl
theorem s314_1300 {c : Nat → List AV → SS → Option Out} {l1 l2 l3 l4 l5 l6 l7 : Option AV} {o : OId} {L2 : List (Nat × AV)} {St : List AV} {S : SS} : ev c 314 1300 [some (aR o), l1, l2, l3, l4, l5, l6, l7] L2 St S = ev c 314 1301 [some (aR o), l1, l2, l3, l4, l5, l6, l7] L2 (aR o :: St) S := ev_go i314_1300 rfl
theorem i314_1301 : insAt 314 1301 = some (.iload 5, 2, (0, 0, 0, 0), 0) := rfl
theorem s314_1301 {c : Nat → List AV → SS → Option Out} {l0 l1 l2 l3 l4 l6 l7 : Option AV} {x : Int32} {L2 : List (Nat × AV)} {St : List AV} {S : SS} : ev c 314 1301 [l0, l1, l2, l3, l4, some (aI x), l6, l7] L2 St S = ev c 314 1303 [l0, l1, l2, l3, l4, some (aI x), l6, l7] L2 (aI x :: St) S := ev_go i314_1301 rfl
theorem i314_1303 : insAt 314 1303 = some (.iconst 1, 1, (0, 0, 0, 0), 0) := rfl
theorem s314_1303 {c : Nat → List AV → SS → Option Out} {l0 l1 l2 l3 l4 l5 l6 l7 : Option AV} {L2 : List (Nat × AV)} {St : List AV} {S : SS} : ev c 314 1303 [l0, l1, l2, l3, l4, l5, l6, l7] L2 St S = ev c 314 1304 [l0, l1, l2, l3, l4, l5, l6, l7] L2 (aI 1 :: St) S := ev_go i314_1303 rfl
theorem i314_1304 : insAt 314 1304 = some (.iadd, 1, (0, 0, 0, 0), 0) := rfl
theorem s314_1304 {c : Nat → List AV → SS → Option Out} {l0 l1 l2 l3 l4 l5 l6 l7 : Option AV} {x y : Int32} {L2 : List (Nat × AV)} {St : List AV} {S : SS} : ev c 314 1304 [l0, l1, l2, l3, l4, l5, l6, l7] L2 (aI y :: aI x :: St) S = ev c 314 1305 [l0, l1, l2, l3, l4, l5, l6, l7] L2 (aI (x + y) :: St) S := ev_go i314_1304 rfl
theorem i314_1305 : insAt 314 1305 = some (.iaload, 1, (0, 0, 0, 0), 0) := rfl
theorem s314_1305 {c : Nat → List AV → SS → Option Out} {l0 l1 l2 l3 l4 l5 l6 l7 : Option AV} {i : Int32} {o : OId} {L2 : List (Nat × AV)} {St : List AV} {S : SS} : ev c 314 1305 [l0, l1, l2, l3, l4, l5, l6, l7] L2 (aI i :: aR o :: St) S = kI o i (ev c 314 1306 [l0, l1, l2, l3, l4, l5, l6, l7] L2 (aI (agI S o i.toNatClampNeg) :: St) S) := ev_iaload i314_1305
theorem i314_1306 : insAt 314 1306 = some (.aload_n 0, 1, (0, 0, 0, 0), 0) := rfl
theorem s314_1306 {c : Nat → List AV → SS → Option Out} {l1 l2 l3 l4 l5 l6 l7 : Option AV} {o : OId} {L2 : List (Nat × AV)} {St : List AV} {S : SS} : ev c 314 1306 [some (aR o), l1, l2, l3, l4, l5, l6, l7] L2 St S = ev c 314 1307 [some (aR o), l1, l2, l3, l4, l5, l6, l7] L2 (aR o :: St) S := ev_go i314_1306 rfl
theorem i314_1307 : insAt 314 1307 = some (.iload 5, 2, (0, 0, 0, 0), 0) := rfl
theorem s314_1307 {c : Nat → List AV → SS → Option Out} {l0 l1 l2 l3 l4 l6 l7 : Option AV} {x : Int32} {L2 : List (Nat × AV)} {St : List AV} {S : SS} : ev c 314 1307 [l0, l1, l2, l3, l4, some (aI x), l6, l7] L2 St S = ev c 314 1309 [l0, l1, l2, l3, l4, some (aI x), l6, l7] L2 (aI x :: St) S := ev_go i314_1307 rfl
theorem i314_1309 : insAt 314 1309 = some (.iconst 2, 1, (0, 0, 0, 0), 0) := rfl
theorem s314_1309 {c : Nat → List AV → SS → Option Out} {l0 l1 l2 l3 l4 l5 l6 l7 : Option AV} {L2 : List (Nat × AV)} {St : List AV} {S : SS} : ev c 314 1309 [l0, l1, l2, l3, l4, l5, l6, l7] L2 St S = ev c 314 1310 [l0, l1, l2, l3, l4, l5, l6, l7] L2 (aI 2 :: St) S := ev_go i314_1309 rfl
theorem i314_1310 : insAt 314 1310 = some (.iadd, 1, (0, 0, 0, 0), 0) := rfl
theorem s314_1310 {c : Nat → List AV → SS → Option Out} {l0 l1 l2 l3 l4 l5 l6 l7 : Option AV} {x y : Int32} {L2 : List (Nat × AV)} {St : List AV} {S : SS} : ev c 314 1310 [l0, l1, l2, l3, l4, l5, l6, l7] L2 (aI y :: aI x :: St) S = ev c 314 1311 [l0, l1, l2, l3, l4, l5, l6, l7] L2 (aI (x + y) :: St) S := ev_go i314_1310 rfl
theorem i314_1311 : insAt 314 1311 = some (.iaload, 1, (0, 0, 0, 0), 0) := rfl
theorem s314_1311 {c : Nat → List AV → SS → Option Out} {l0 l1 l2 l3 l4 l5 l6 l7 : Option AV} {i : Int32} {o : OId} {L2 : List (Nat × AV)} {St : List AV} {S : SS} : ev c 314 1311 [l0, l1, l2, l3, l4, l5, l6, l7] L2 (aI i :: aR o :: St) S = kI o i (ev c 314 1312 [l0, l1, l2, l3, l4, l5, l6, l7] L2 (aI (agI S o i.toNatClampNeg) :: St) S) := ev_iaload i314_1311
theorem i314_1312 : insAt 314 1312 = some (.invokevirtual 231, 3, (277, 2, 2, 12), 0) := rfl
theorem s314_1312 {c : Nat → List AV → SS → Option Out} {l0 l1 l2 l3 l4 l5 l6 l7 : Option AV} {a0 : Int32} {a1 : Int32} {j t : Nat} {L2 : List (Nat × AV)} {S : SS} : ev c 314 1312 [l0, l1, l2, l3, l4, l5, l6, l7] L2 [aI a1, aI a0, aR (12, j, t)] S = ck (c 277 [aR (12, j, t), aI a0, aI a1] S) (fun v S' => ev c 314 1315 [l0, l1, l2, l3, l4, l5, l6, l7] L2 (v.toList ++ []) S') := ev_call i314_1312 rfl
theorem i314_1315 : insAt 314 1315 = some (.istore 7, 2, (0, 0, 0, 0), 0) := rfl
theorem s314_1315 {c : Nat → List AV → SS → Option Out} {l0 l1 l2 l3 l4 l5 l6 l7 : Option AV} {x : Int32} {L2 : List (Nat × AV)} {St : List AV} {S : SS} : ev c 314 1315 [l0, l1, l2, l3, l4, l5, l6, l7] L2 (aI x :: St) S = ev c 314 1317 [l0, l1, l2, l3, l4, l5, l6, some (aI x)] (kil L2 7) St S := ev_go i314_1315 rfl
theorem i314_1317 : insAt 314 1317 = some (.aload_n 2, 1, (0, 0, 0, 0), 0) := rfl
theorem s314_1317 {c : Nat → List AV → SS → Option Out} {l0 l1 l3 l4 l5 l6 l7 : Option AV} {o : OId} {L2 : List (Nat × AV)} {St : List AV} {S : SS} : ev c 314 1317 [l0, l1, some (aR o), l3, l4, l5, l6, l7] L2 St S = ev c 314 1318 [l0, l1, some (aR o), l3, l4, l5, l6, l7] L2 (aR o :: St) S := ev_go i314_1317 rfl
theorem i314_1318 : insAt 314 1318 = some (.invokevirtual 149, 3, (218, 0, 2, 12), 0) := rfl
theorem s314_1318 {c : Nat → List AV → SS → Option Out} {l0 l1 l2 l3 l4 l5 l6 l7 : Option AV} {j t : Nat} {L2 : List (Nat × AV)} {S : SS} : ev c 314 1318 [l0, l1, l2, l3, l4, l5, l6, l7] L2 [aR (12, j, t)] S = ck (c 218 [aR (12, j, t)] S) (fun v S' => ev c 314 1321 [l0, l1, l2, l3, l4, l5, l6, l7] L2 (v.toList ++ []) S') := ev_call i314_1318 rfl
theorem i314_1321 : insAt 314 1321 = some (.iload 6, 2, (0, 0, 0, 0), 0) := rfl
theorem s314_1321 {c : Nat → List AV → SS → Option Out} {l0 l1 l2 l3 l4 l5 l7 : Option AV} {x : Int32} {L2 : List (Nat × AV)} {St : List AV} {S : SS} : ev c 314 1321 [l0, l1, l2, l3, l4, l5, some (aI x), l7] L2 St S = ev c 314 1323 [l0, l1, l2, l3, l4, l5, some (aI x), l7] L2 (aI x :: St) S := ev_go i314_1321 rfl
theorem i314_1323 : insAt 314 1323 = some (.if_icmp .eq 5, 3, (0, 0, 0, 0), 0) := rfl
theorem s314_1323 {c : Nat → List AV → SS → Option Out} {l0 l1 l2 l3 l4 l5 l6 l7 : Option AV} {x y : Int32} {L2 : List (Nat × AV)} {St : List AV} {S : SS} : ev c 314 1323 [l0, l1, l2, l3, l4, l5, l6, l7] L2 (aI y :: aI x :: St) S = if x = y then ev c 314 1328 [l0, l1, l2, l3, l4, l5, l6, l7] L2 St S else ev c 314 1326 [l0, l1, l2, l3, l4, l5, l6, l7] L2 St S := ev_br i314_1323 rfl
theorem i314_1326 : insAt 314 1326 = some (.iconst 0, 1, (0, 0, 0, 0), 0) := rfl
theorem s314_1326 {c : Nat → List AV → SS → Option Out} {l0 l1 l2 l3 l4 l5 l6 l7 : Option AV} {L2 : List (Nat × AV)} {St : List AV} {S : SS} : ev c 314 1326 [l0, l1, l2, l3, l4, l5, l6, l7] L2 St S = ev c 314 1327 [l0, l1, l2, l3, l4, l5, l6, l7] L2 (aI 0 :: St) S := ev_go i314_1326 rfl
theorem i314_1327 : insAt 314 1327 = some (.ireturn, 1, (0, 0, 0, 0), 0) := rfl
theorem s314_1327 {c : Nat → List AV → SS → Option Out} {l0 l1 l2 l3 l4 l5 l6 l7 : Option AV} {x : Int32} {L2 : List (Nat × AV)} {St : List AV} {S : SS} : ev c 314 1327 [l0, l1, l2, l3, l4, l5, l6, l7] L2 [aI x] S = if x = 0 ∨ x = 1 then some (.inl (some (aI x)), S) else none := ev_rt i314_1327 rfl
theorem i314_1328 : insAt 314 1328 = some (.iload 6, 2, (0, 0, 0, 0), 0) := rfl
theorem s314_1328 {c : Nat → List AV → SS → Option Out} {l0 l1 l2 l3 l4 l5 l7 : Option AV} {x : Int32} {L2 : List (Nat × AV)} {St : List AV} {S : SS} : ev c 314 1328 [l0, l1, l2, l3, l4, l5, some (aI x), l7] L2 St S = ev c 314 1330 [l0, l1, l2, l3, l4, l5, some (aI x), l7] L2 (aI x :: St) S := ev_go i314_1328 rfl
theorem i314_1330 : insAt 314 1330 = some (.ifCond .ne 15, 3, (0, 0, 0, 0), 0) := rfl
theorem s314_1330 {c : Nat → List AV → SS → Option Out} {l0 l1 l2 l3 l4 l5 l6 l7 : Option AV} {x : Int32} {L2 : List (Nat × AV)} {St : List AV} {S : SS} : ev c 314 1330 [l0, l1, l2, l3, l4, l5, l6, l7] L2 (aI x :: St) S = if x = 0 then ev c 314 1333 [l0, l1, l2, l3, l4, l5, l6, l7] L2 St S else ev c 314 1345 [l0, l1, l2, l3, l4, l5, l6, l7] L2 St S := (ev_br i314_1330 rfl).trans (ite_not _ _ _)
theorem i314_1333 : insAt 314 1333 = some (.aload_n 3, 1, (0, 0, 0, 0), 0) := rfl
theorem s314_1333 {c : Nat → List AV → SS → Option Out} {l0 l1 l2 l4 l5 l6 l7 : Option AV} {o : OId} {L2 : List (Nat × AV)} {St : List AV} {S : SS} : ev c 314 1333 [l0, l1, l2, some (aR o), l4, l5, l6, l7] L2 St S = ev c 314 1334 [l0, l1, l2, some (aR o), l4, l5, l6, l7] L2 (aR o :: St) S := ev_go i314_1333 rfl
theorem i314_1334 : insAt 314 1334 = some (.iconst 0, 1, (0, 0, 0, 0), 0) := rfl
theorem s314_1334 {c : Nat → List AV → SS → Option Out} {l0 l1 l2 l3 l4 l5 l6 l7 : Option AV} {L2 : List (Nat × AV)} {St : List AV} {S : SS} : ev c 314 1334 [l0, l1, l2, l3, l4, l5, l6, l7] L2 St S = ev c 314 1335 [l0, l1, l2, l3, l4, l5, l6, l7] L2 (aI 0 :: St) S := ev_go i314_1334 rfl
theorem i314_1335 : insAt 314 1335 = some (.laload, 1, (0, 0, 0, 0), 0) := rfl
theorem s314_1335 {c : Nat → List AV → SS → Option Out} {l0 l1 l2 l3 l4 l5 l6 l7 : Option AV} {i : Int32} {o : OId} {L2 : List (Nat × AV)} {St : List AV} {S : SS} : ev c 314 1335 [l0, l1, l2, l3, l4, l5, l6, l7] L2 (aI i :: aR o :: St) S = kJ o i (ev c 314 1336 [l0, l1, l2, l3, l4, l5, l6, l7] L2 (aL (toL (S.2.1 o i.toNatClampNeg)) :: St) S) := ev_laload i314_1335
theorem i314_1336 : insAt 314 1336 = some (.iload 7, 2, (0, 0, 0, 0), 0) := rfl
theorem s314_1336 {c : Nat → List AV → SS → Option Out} {l0 l1 l2 l3 l4 l5 l6 : Option AV} {x : Int32} {L2 : List (Nat × AV)} {St : List AV} {S : SS} : ev c 314 1336 [l0, l1, l2, l3, l4, l5, l6, some (aI x)] L2 St S = ev c 314 1338 [l0, l1, l2, l3, l4, l5, l6, some (aI x)] L2 (aI x :: St) S := ev_go i314_1336 rfl
theorem i314_1338 : insAt 314 1338 = some (.i2l, 1, (0, 0, 0, 0), 0) := rfl
theorem s314_1338 {c : Nat → List AV → SS → Option Out} {l0 l1 l2 l3 l4 l5 l6 l7 : Option AV} {x : Int32} {L2 : List (Nat × AV)} {St : List AV} {S : SS} : ev c 314 1338 [l0, l1, l2, l3, l4, l5, l6, l7] L2 (aI x :: St) S = ev c 314 1339 [l0, l1, l2, l3, l4, l5, l6, l7] L2 (aL x.toInt64 :: St) S := ev_go i314_1338 rfl
theorem i314_1339 : insAt 314 1339 = some (.lcmp, 1, (0, 0, 0, 0), 0) := rfl
theorem s314_1339 {c : Nat → List AV → SS → Option Out} {l0 l1 l2 l3 l4 l5 l6 l7 : Option AV} {x y : Int64} {L2 : List (Nat × AV)} {St : List AV} {S : SS} : ev c 314 1339 [l0, l1, l2, l3, l4, l5, l6, l7] L2 (aL y :: aL x :: St) S = ev c 314 1340 [l0, l1, l2, l3, l4, l5, l6, l7] L2 (aI (if x < y then -1 else if x = y then 0 else 1) :: St) S := ev_go i314_1339 rfl
theorem i314_1340 : insAt 314 1340 = some (.ifCond .eq 5, 3, (0, 0, 0, 0), 0) := rfl
theorem s314_1340 {c : Nat → List AV → SS → Option Out} {l0 l1 l2 l3 l4 l5 l6 l7 : Option AV} {x : Int32} {L2 : List (Nat × AV)} {St : List AV} {S : SS} : ev c 314 1340 [l0, l1, l2, l3, l4, l5, l6, l7] L2 (aI x :: St) S = if x = 0 then ev c 314 1345 [l0, l1, l2, l3, l4, l5, l6, l7] L2 St S else ev c 314 1343 [l0, l1, l2, l3, l4, l5, l6, l7] L2 St S := ev_br i314_1340 rfl
theorem i314_1343 : insAt 314 1343 = some (.iconst 0, 1, (0, 0, 0, 0), 0) := rfl
theorem s314_1343 {c : Nat → List AV → SS → Option Out} {l0 l1 l2 l3 l4 l5 l6 l7 : Option AV} {L2 : List (Nat × AV)} {St : List AV} {S : SS} : ev c 314 1343 [l0, l1, l2, l3, l4, l5, l6, l7] L2 St S = ev c 314 1344 [l0, l1, l2, l3, l4, l5, l6, l7] L2 (aI 0 :: St) S := ev_go i314_1343 rfl
theorem i314_1344 : insAt 314 1344 = some (.ireturn, 1, (0, 0, 0, 0), 0) := rfl
theorem s314_1344 {c : Nat → List AV → SS → Option Out} {l0 l1 l2 l3 l4 l5 l6 l7 : Option AV} {x : Int32} {L2 : List (Nat × AV)} {St : List AV} {S : SS} : ev c 314 1344 [l0, l1, l2, l3, l4, l5, l6, l7] L2 [aI x] S = if x = 0 ∨ x = 1 then some (.inl (some (aI x)), S) else none := ev_rt i314_1344 rfl
theorem i314_1345 : insAt 314 1345 = some (.goto 1454, 3, (0, 0, 0, 0), 0) := rfl
theorem s314_1345 {c : Nat → List AV → SS → Option Out} {l0 l1 l2 l3 l4 l5 l6 l7 : Option AV} {L2 : List (Nat × AV)} {St : List AV} {S : SS} : ev c 314 1345 [l0, l1, l2, l3, l4, l5, l6, l7] L2 St S = ev c 314 2799 [l0, l1, l2, l3, l4, l5, l6, l7] L2 St S := ev_go i314_1345 rfl
theorem i314_1348 : insAt 314 1348 = some (.aload_n 1, 1, (0, 0, 0, 0), 0) := rfl
theorem s314_1348 {c : Nat → List AV → SS → Option Out} {l0 l2 l3 l4 l5 l6 l7 : Option AV} {o : OId} {L2 : List (Nat × AV)} {St : List AV} {S : SS} : ev c 314 1348 [l0, some (aR o), l2, l3, l4, l5, l6, l7] L2 St S = ev c 314 1349 [l0, some (aR o), l2, l3, l4, l5, l6, l7] L2 (aR o :: St) S := ev_go i314_1348 rfl
theorem i314_1349 : insAt 314 1349 = some (.aload_n 0, 1, (0, 0, 0, 0), 0) := rfl
theorem s314_1349 {c : Nat → List AV → SS → Option Out} {l1 l2 l3 l4 l5 l6 l7 : Option AV} {o : OId} {L2 : List (Nat × AV)} {St : List AV} {S : SS} : ev c 314 1349 [some (aR o), l1, l2, l3, l4, l5, l6, l7] L2 St S = ev c 314 1350 [some (aR o), l1, l2, l3, l4, l5, l6, l7] L2 (aR o :: St) S := ev_go i314_1349 rfl
theorem i314_1350 : insAt 314 1350 = some (.iload 5, 2, (0, 0, 0, 0), 0) := rfl
theorem s314_1350 {c : Nat → List AV → SS → Option Out} {l0 l1 l2 l3 l4 l6 l7 : Option AV} {x : Int32} {L2 : List (Nat × AV)} {St : List AV} {S : SS} : ev c 314 1350 [l0, l1, l2, l3, l4, some (aI x), l6, l7] L2 St S = ev c 314 1352 [l0, l1, l2, l3, l4, some (aI x), l6, l7] L2 (aI x :: St) S := ev_go i314_1350 rfl
theorem i314_1352 : insAt 314 1352 = some (.iconst 1, 1, (0, 0, 0, 0), 0) := rfl
theorem s314_1352 {c : Nat → List AV → SS → Option Out} {l0 l1 l2 l3 l4 l5 l6 l7 : Option AV} {L2 : List (Nat × AV)} {St : List AV} {S : SS} : ev c 314 1352 [l0, l1, l2, l3, l4, l5, l6, l7] L2 St S = ev c 314 1353 [l0, l1, l2, l3, l4, l5, l6, l7] L2 (aI 1 :: St) S := ev_go i314_1352 rfl
theorem i314_1353 : insAt 314 1353 = some (.iadd, 1, (0, 0, 0, 0), 0) := rfl
theorem s314_1353 {c : Nat → List AV → SS → Option Out} {l0 l1 l2 l3 l4 l5 l6 l7 : Option AV} {x y : Int32} {L2 : List (Nat × AV)} {St : List AV} {S : SS} : ev c 314 1353 [l0, l1, l2, l3, l4, l5, l6, l7] L2 (aI y :: aI x :: St) S = ev c 314 1354 [l0, l1, l2, l3, l4, l5, l6, l7] L2 (aI (x + y) :: St) S := ev_go i314_1353 rfl
theorem i314_1354 : insAt 314 1354 = some (.iaload, 1, (0, 0, 0, 0), 0) := rfl
theorem s314_1354 {c : Nat → List AV → SS → Option Out} {l0 l1 l2 l3 l4 l5 l6 l7 : Option AV} {i : Int32} {o : OId} {L2 : List (Nat × AV)} {St : List AV} {S : SS} : ev c 314 1354 [l0, l1, l2, l3, l4, l5, l6, l7] L2 (aI i :: aR o :: St) S = kI o i (ev c 314 1355 [l0, l1, l2, l3, l4, l5, l6, l7] L2 (aI (agI S o i.toNatClampNeg) :: St) S) := ev_iaload i314_1354
theorem i314_1355 : insAt 314 1355 = some (.aload_n 0, 1, (0, 0, 0, 0), 0) := rfl
theorem s314_1355 {c : Nat → List AV → SS → Option Out} {l1 l2 l3 l4 l5 l6 l7 : Option AV} {o : OId} {L2 : List (Nat × AV)} {St : List AV} {S : SS} : ev c 314 1355 [some (aR o), l1, l2, l3, l4, l5, l6, l7] L2 St S = ev c 314 1356 [some (aR o), l1, l2, l3, l4, l5, l6, l7] L2 (aR o :: St) S := ev_go i314_1355 rfl
theorem i314_1356 : insAt 314 1356 = some (.iload 5, 2, (0, 0, 0, 0), 0) := rfl
theorem s314_1356 {c : Nat → List AV → SS → Option Out} {l0 l1 l2 l3 l4 l6 l7 : Option AV} {x : Int32} {L2 : List (Nat × AV)} {St : List AV} {S : SS} : ev c 314 1356 [l0, l1, l2, l3, l4, some (aI x), l6, l7] L2 St S = ev c 314 1358 [l0, l1, l2, l3, l4, some (aI x), l6, l7] L2 (aI x :: St) S := ev_go i314_1356 rfl
theorem i314_1358 : insAt 314 1358 = some (.iconst 2, 1, (0, 0, 0, 0), 0) := rfl
theorem s314_1358 {c : Nat → List AV → SS → Option Out} {l0 l1 l2 l3 l4 l5 l6 l7 : Option AV} {L2 : List (Nat × AV)} {St : List AV} {S : SS} : ev c 314 1358 [l0, l1, l2, l3, l4, l5, l6, l7] L2 St S = ev c 314 1359 [l0, l1, l2, l3, l4, l5, l6, l7] L2 (aI 2 :: St) S := ev_go i314_1358 rfl
theorem i314_1359 : insAt 314 1359 = some (.iadd, 1, (0, 0, 0, 0), 0) := rfl
theorem s314_1359 {c : Nat → List AV → SS → Option Out} {l0 l1 l2 l3 l4 l5 l6 l7 : Option AV} {x y : Int32} {L2 : List (Nat × AV)} {St : List AV} {S : SS} : ev c 314 1359 [l0, l1, l2, l3, l4, l5, l6, l7] L2 (aI y :: aI x :: St) S = ev c 314 1360 [l0, l1, l2, l3, l4, l5, l6, l7] L2 (aI (x + y) :: St) S := ev_go i314_1359 rfl
theorem i314_1360 : insAt 314 1360 = some (.iaload, 1, (0, 0, 0, 0), 0) := rfl
theorem s314_1360 {c : Nat → List AV → SS → Option Out} {l0 l1 l2 l3 l4 l5 l6 l7 : Option AV} {i : Int32} {o : OId} {L2 : List (Nat × AV)} {St : List AV} {S : SS} : ev c 314 1360 [l0, l1, l2, l3, l4, l5, l6, l7] L2 (aI i :: aR o :: St) S = kI o i (ev c 314 1361 [l0, l1, l2, l3, l4, l5, l6, l7] L2 (aI (agI S o i.toNatClampNeg) :: St) S) := ev_iaload i314_1360
theorem i314_1361 : insAt 314 1361 = some (.aload_n 3, 1, (0, 0, 0, 0), 0) := rfl
theorem s314_1361 {c : Nat → List AV → SS → Option Out} {l0 l1 l2 l4 l5 l6 l7 : Option AV} {o : OId} {L2 : List (Nat × AV)} {St : List AV} {S : SS} : ev c 314 1361 [l0, l1, l2, some (aR o), l4, l5, l6, l7] L2 St S = ev c 314 1362 [l0, l1, l2, some (aR o), l4, l5, l6, l7] L2 (aR o :: St) S := ev_go i314_1361 rfl
theorem i314_1362 : insAt 314 1362 = some (.invokestatic 232, 3, (123, 4, 0, 0), 0) := rfl
theorem s314_1362 {c : Nat → List AV → SS → Option Out} {l0 l1 l2 l3 l4 l5 l6 l7 : Option AV} {a0 : OId} {a1 : Int32} {a2 : Int32} {a3 : OId} {L2 : List (Nat × AV)} {S : SS} : ev c 314 1362 [l0, l1, l2, l3, l4, l5, l6, l7] L2 [aR a3, aI a2, aI a1, aR a0] S = ck (c 123 [aR a0, aI a1, aI a2, aR a3] S) (fun v S' => ev c 314 1365 [l0, l1, l2, l3, l4, l5, l6, l7] L2 (v.toList ++ []) S') := ev_call i314_1362 rfl
theorem i314_1365 : insAt 314 1365 = some (.istore 6, 2, (0, 0, 0, 0), 0) := rfl
theorem s314_1365 {c : Nat → List AV → SS → Option Out} {l0 l1 l2 l3 l4 l5 l6 l7 : Option AV} {x : Int32} {L2 : List (Nat × AV)} {St : List AV} {S : SS} : ev c 314 1365 [l0, l1, l2, l3, l4, l5, l6, l7] L2 (aI x :: St) S = ev c 314 1367 [l0, l1, l2, l3, l4, l5, some (aI x), l7] (kil L2 6) St S := ev_go i314_1365 rfl
theorem i314_1367 : insAt 314 1367 = some (.aload_n 2, 1, (0, 0, 0, 0), 0) := rfl
theorem s314_1367 {c : Nat → List AV → SS → Option Out} {l0 l1 l3 l4 l5 l6 l7 : Option AV} {o : OId} {L2 : List (Nat × AV)} {St : List AV} {S : SS} : ev c 314 1367 [l0, l1, some (aR o), l3, l4, l5, l6, l7] L2 St S = ev c 314 1368 [l0, l1, some (aR o), l3, l4, l5, l6, l7] L2 (aR o :: St) S := ev_go i314_1367 rfl
theorem i314_1368 : insAt 314 1368 = some (.aload_n 0, 1, (0, 0, 0, 0), 0) := rfl
theorem s314_1368 {c : Nat → List AV → SS → Option Out} {l1 l2 l3 l4 l5 l6 l7 : Option AV} {o : OId} {L2 : List (Nat × AV)} {St : List AV} {S : SS} : ev c 314 1368 [some (aR o), l1, l2, l3, l4, l5, l6, l7] L2 St S = ev c 314 1369 [some (aR o), l1, l2, l3, l4, l5, l6, l7] L2 (aR o :: St) S := ev_go i314_1368 rfl
theorem i314_1369 : insAt 314 1369 = some (.iload 5, 2, (0, 0, 0, 0), 0) := rfl
theorem s314_1369 {c : Nat → List AV → SS → Option Out} {l0 l1 l2 l3 l4 l6 l7 : Option AV} {x : Int32} {L2 : List (Nat × AV)} {St : List AV} {S : SS} : ev c 314 1369 [l0, l1, l2, l3, l4, some (aI x), l6, l7] L2 St S = ev c 314 1371 [l0, l1, l2, l3, l4, some (aI x), l6, l7] L2 (aI x :: St) S := ev_go i314_1369 rfl
theorem i314_1371 : insAt 314 1371 = some (.iconst 1, 1, (0, 0, 0, 0), 0) := rfl
theorem s314_1371 {c : Nat → List AV → SS → Option Out} {l0 l1 l2 l3 l4 l5 l6 l7 : Option AV} {L2 : List (Nat × AV)} {St : List AV} {S : SS} : ev c 314 1371 [l0, l1, l2, l3, l4, l5, l6, l7] L2 St S = ev c 314 1372 [l0, l1, l2, l3, l4, l5, l6, l7] L2 (aI 1 :: St) S := ev_go i314_1371 rfl
theorem i314_1372 : insAt 314 1372 = some (.iadd, 1, (0, 0, 0, 0), 0) := rfl
theorem s314_1372 {c : Nat → List AV → SS → Option Out} {l0 l1 l2 l3 l4 l5 l6 l7 : Option AV} {x y : Int32} {L2 : List (Nat × AV)} {St : List AV} {S : SS} : ev c 314 1372 [l0, l1, l2, l3, l4, l5, l6, l7] L2 (aI y :: aI x :: St) S = ev c 314 1373 [l0, l1, l2, l3, l4, l5, l6, l7] L2 (aI (x + y) :: St) S := ev_go i314_1372 rfl
theorem i314_1373 : insAt 314 1373 = some (.iaload, 1, (0, 0, 0, 0), 0) := rfl
theorem s314_1373 {c : Nat → List AV → SS → Option Out} {l0 l1 l2 l3 l4 l5 l6 l7 : Option AV} {i : Int32} {o : OId} {L2 : List (Nat × AV)} {St : List AV} {S : SS} : ev c 314 1373 [l0, l1, l2, l3, l4, l5, l6, l7] L2 (aI i :: aR o :: St) S = kI o i (ev c 314 1374 [l0, l1, l2, l3, l4, l5, l6, l7] L2 (aI (agI S o i.toNatClampNeg) :: St) S) := ev_iaload i314_1373
theorem i314_1374 : insAt 314 1374 = some (.aload_n 0, 1, (0, 0, 0, 0), 0) := rfl
theorem s314_1374 {c : Nat → List AV → SS → Option Out} {l1 l2 l3 l4 l5 l6 l7 : Option AV} {o : OId} {L2 : List (Nat × AV)} {St : List AV} {S : SS} : ev c 314 1374 [some (aR o), l1, l2, l3, l4, l5, l6, l7] L2 St S = ev c 314 1375 [some (aR o), l1, l2, l3, l4, l5, l6, l7] L2 (aR o :: St) S := ev_go i314_1374 rfl
theorem i314_1375 : insAt 314 1375 = some (.iload 5, 2, (0, 0, 0, 0), 0) := rfl
theorem s314_1375 {c : Nat → List AV → SS → Option Out} {l0 l1 l2 l3 l4 l6 l7 : Option AV} {x : Int32} {L2 : List (Nat × AV)} {St : List AV} {S : SS} : ev c 314 1375 [l0, l1, l2, l3, l4, some (aI x), l6, l7] L2 St S = ev c 314 1377 [l0, l1, l2, l3, l4, some (aI x), l6, l7] L2 (aI x :: St) S := ev_go i314_1375 rfl
theorem i314_1377 : insAt 314 1377 = some (.iconst 2, 1, (0, 0, 0, 0), 0) := rfl
theorem s314_1377 {c : Nat → List AV → SS → Option Out} {l0 l1 l2 l3 l4 l5 l6 l7 : Option AV} {L2 : List (Nat × AV)} {St : List AV} {S : SS} : ev c 314 1377 [l0, l1, l2, l3, l4, l5, l6, l7] L2 St S = ev c 314 1378 [l0, l1, l2, l3, l4, l5, l6, l7] L2 (aI 2 :: St) S := ev_go i314_1377 rfl
theorem i314_1378 : insAt 314 1378 = some (.iadd, 1, (0, 0, 0, 0), 0) := rfl
theorem s314_1378 {c : Nat → List AV → SS → Option Out} {l0 l1 l2 l3 l4 l5 l6 l7 : Option AV} {x y : Int32} {L2 : List (Nat × AV)} {St : List AV} {S : SS} : ev c 314 1378 [l0, l1, l2, l3, l4, l5, l6, l7] L2 (aI y :: aI x :: St) S = ev c 314 1379 [l0, l1, l2, l3, l4, l5, l6, l7] L2 (aI (x + y) :: St) S := ev_go i314_1378 rfl
theorem i314_1379 : insAt 314 1379 = some (.iaload, 1, (0, 0, 0, 0), 0) := rfl
theorem s314_1379 {c : Nat → List AV → SS → Option Out} {l0 l1 l2 l3 l4 l5 l6 l7 : Option AV} {i : Int32} {o : OId} {L2 : List (Nat × AV)} {St : List AV} {S : SS} : ev c 314 1379 [l0, l1, l2, l3, l4, l5, l6, l7] L2 (aI i :: aR o :: St) S = kI o i (ev c 314 1380 [l0, l1, l2, l3, l4, l5, l6, l7] L2 (aI (agI S o i.toNatClampNeg) :: St) S) := ev_iaload i314_1379
theorem i314_1380 : insAt 314 1380 = some (.invokevirtual 234, 3, (279, 2, 2, 12), 0) := rfl
theorem s314_1380 {c : Nat → List AV → SS → Option Out} {l0 l1 l2 l3 l4 l5 l6 l7 : Option AV} {a0 : Int32} {a1 : Int32} {j t : Nat} {L2 : List (Nat × AV)} {S : SS} : ev c 314 1380 [l0, l1, l2, l3, l4, l5, l6, l7] L2 [aI a1, aI a0, aR (12, j, t)] S = ck (c 279 [aR (12, j, t), aI a0, aI a1] S) (fun v S' => ev c 314 1383 [l0, l1, l2, l3, l4, l5, l6, l7] L2 (v.toList ++ []) S') := ev_call i314_1380 rfl
theorem i314_1383 : insAt 314 1383 = some (.istore 7, 2, (0, 0, 0, 0), 0) := rfl
theorem s314_1383 {c : Nat → List AV → SS → Option Out} {l0 l1 l2 l3 l4 l5 l6 l7 : Option AV} {x : Int32} {L2 : List (Nat × AV)} {St : List AV} {S : SS} : ev c 314 1383 [l0, l1, l2, l3, l4, l5, l6, l7] L2 (aI x :: St) S = ev c 314 1385 [l0, l1, l2, l3, l4, l5, l6, some (aI x)] (kil L2 7) St S := ev_go i314_1383 rfl
theorem i314_1385 : insAt 314 1385 = some (.aload_n 2, 1, (0, 0, 0, 0), 0) := rfl
theorem s314_1385 {c : Nat → List AV → SS → Option Out} {l0 l1 l3 l4 l5 l6 l7 : Option AV} {o : OId} {L2 : List (Nat × AV)} {St : List AV} {S : SS} : ev c 314 1385 [l0, l1, some (aR o), l3, l4, l5, l6, l7] L2 St S = ev c 314 1386 [l0, l1, some (aR o), l3, l4, l5, l6, l7] L2 (aR o :: St) S := ev_go i314_1385 rfl
theorem i314_1386 : insAt 314 1386 = some (.invokevirtual 149, 3, (218, 0, 2, 12), 0) := rfl
theorem s314_1386 {c : Nat → List AV → SS → Option Out} {l0 l1 l2 l3 l4 l5 l6 l7 : Option AV} {j t : Nat} {L2 : List (Nat × AV)} {S : SS} : ev c 314 1386 [l0, l1, l2, l3, l4, l5, l6, l7] L2 [aR (12, j, t)] S = ck (c 218 [aR (12, j, t)] S) (fun v S' => ev c 314 1389 [l0, l1, l2, l3, l4, l5, l6, l7] L2 (v.toList ++ []) S') := ev_call i314_1386 rfl
theorem i314_1389 : insAt 314 1389 = some (.iload 6, 2, (0, 0, 0, 0), 0) := rfl
theorem s314_1389 {c : Nat → List AV → SS → Option Out} {l0 l1 l2 l3 l4 l5 l7 : Option AV} {x : Int32} {L2 : List (Nat × AV)} {St : List AV} {S : SS} : ev c 314 1389 [l0, l1, l2, l3, l4, l5, some (aI x), l7] L2 St S = ev c 314 1391 [l0, l1, l2, l3, l4, l5, some (aI x), l7] L2 (aI x :: St) S := ev_go i314_1389 rfl
theorem i314_1391 : insAt 314 1391 = some (.if_icmp .eq 5, 3, (0, 0, 0, 0), 0) := rfl
theorem s314_1391 {c : Nat → List AV → SS → Option Out} {l0 l1 l2 l3 l4 l5 l6 l7 : Option AV} {x y : Int32} {L2 : List (Nat × AV)} {St : List AV} {S : SS} : ev c 314 1391 [l0, l1, l2, l3, l4, l5, l6, l7] L2 (aI y :: aI x :: St) S = if x = y then ev c 314 1396 [l0, l1, l2, l3, l4, l5, l6, l7] L2 St S else ev c 314 1394 [l0, l1, l2, l3, l4, l5, l6, l7] L2 St S := ev_br i314_1391 rfl
theorem i314_1394 : insAt 314 1394 = some (.iconst 0, 1, (0, 0, 0, 0), 0) := rfl
theorem s314_1394 {c : Nat → List AV → SS → Option Out} {l0 l1 l2 l3 l4 l5 l6 l7 : Option AV} {L2 : List (Nat × AV)} {St : List AV} {S : SS} : ev c 314 1394 [l0, l1, l2, l3, l4, l5, l6, l7] L2 St S = ev c 314 1395 [l0, l1, l2, l3, l4, l5, l6, l7] L2 (aI 0 :: St) S := ev_go i314_1394 rfl
theorem i314_1395 : insAt 314 1395 = some (.ireturn, 1, (0, 0, 0, 0), 0) := rfl
theorem s314_1395 {c : Nat → List AV → SS → Option Out} {l0 l1 l2 l3 l4 l5 l6 l7 : Option AV} {x : Int32} {L2 : List (Nat × AV)} {St : List AV} {S : SS} : ev c 314 1395 [l0, l1, l2, l3, l4, l5, l6, l7] L2 [aI x] S = if x = 0 ∨ x = 1 then some (.inl (some (aI x)), S) else none := ev_rt i314_1395 rfl
theorem i314_1396 : insAt 314 1396 = some (.iload 6, 2, (0, 0, 0, 0), 0) := rfl
theorem s314_1396 {c : Nat → List AV → SS → Option Out} {l0 l1 l2 l3 l4 l5 l7 : Option AV} {x : Int32} {L2 : List (Nat × AV)} {St : List AV} {S : SS} : ev c 314 1396 [l0, l1, l2, l3, l4, l5, some (aI x), l7] L2 St S = ev c 314 1398 [l0, l1, l2, l3, l4, l5, some (aI x), l7] L2 (aI x :: St) S := ev_go i314_1396 rfl
theorem i314_1398 : insAt 314 1398 = some (.ifCond .ne 15, 3, (0, 0, 0, 0), 0) := rfl
theorem s314_1398 {c : Nat → List AV → SS → Option Out} {l0 l1 l2 l3 l4 l5 l6 l7 : Option AV} {x : Int32} {L2 : List (Nat × AV)} {St : List AV} {S : SS} : ev c 314 1398 [l0, l1, l2, l3, l4, l5, l6, l7] L2 (aI x :: St) S = if x = 0 then ev c 314 1401 [l0, l1, l2, l3, l4, l5, l6, l7] L2 St S else ev c 314 1413 [l0, l1, l2, l3, l4, l5, l6, l7] L2 St S := (ev_br i314_1398 rfl).trans (ite_not _ _ _)
theorem i314_1401 : insAt 314 1401 = some (.aload_n 3, 1, (0, 0, 0, 0), 0) := rfl
theorem s314_1401 {c : Nat → List AV → SS → Option Out} {l0 l1 l2 l4 l5 l6 l7 : Option AV} {o : OId} {L2 : List (Nat × AV)} {St : List AV} {S : SS} : ev c 314 1401 [l0, l1, l2, some (aR o), l4, l5, l6, l7] L2 St S = ev c 314 1402 [l0, l1, l2, some (aR o), l4, l5, l6, l7] L2 (aR o :: St) S := ev_go i314_1401 rfl
theorem i314_1402 : insAt 314 1402 = some (.iconst 0, 1, (0, 0, 0, 0), 0) := rfl
theorem s314_1402 {c : Nat → List AV → SS → Option Out} {l0 l1 l2 l3 l4 l5 l6 l7 : Option AV} {L2 : List (Nat × AV)} {St : List AV} {S : SS} : ev c 314 1402 [l0, l1, l2, l3, l4, l5, l6, l7] L2 St S = ev c 314 1403 [l0, l1, l2, l3, l4, l5, l6, l7] L2 (aI 0 :: St) S := ev_go i314_1402 rfl
theorem i314_1403 : insAt 314 1403 = some (.laload, 1, (0, 0, 0, 0), 0) := rfl
theorem s314_1403 {c : Nat → List AV → SS → Option Out} {l0 l1 l2 l3 l4 l5 l6 l7 : Option AV} {i : Int32} {o : OId} {L2 : List (Nat × AV)} {St : List AV} {S : SS} : ev c 314 1403 [l0, l1, l2, l3, l4, l5, l6, l7] L2 (aI i :: aR o :: St) S = kJ o i (ev c 314 1404 [l0, l1, l2, l3, l4, l5, l6, l7] L2 (aL (toL (S.2.1 o i.toNatClampNeg)) :: St) S) := ev_laload i314_1403
theorem i314_1404 : insAt 314 1404 = some (.iload 7, 2, (0, 0, 0, 0), 0) := rfl
theorem s314_1404 {c : Nat → List AV → SS → Option Out} {l0 l1 l2 l3 l4 l5 l6 : Option AV} {x : Int32} {L2 : List (Nat × AV)} {St : List AV} {S : SS} : ev c 314 1404 [l0, l1, l2, l3, l4, l5, l6, some (aI x)] L2 St S = ev c 314 1406 [l0, l1, l2, l3, l4, l5, l6, some (aI x)] L2 (aI x :: St) S := ev_go i314_1404 rfl
theorem i314_1406 : insAt 314 1406 = some (.i2l, 1, (0, 0, 0, 0), 0) := rfl
theorem s314_1406 {c : Nat → List AV → SS → Option Out} {l0 l1 l2 l3 l4 l5 l6 l7 : Option AV} {x : Int32} {L2 : List (Nat × AV)} {St : List AV} {S : SS} : ev c 314 1406 [l0, l1, l2, l3, l4, l5, l6, l7] L2 (aI x :: St) S = ev c 314 1407 [l0, l1, l2, l3, l4, l5, l6, l7] L2 (aL x.toInt64 :: St) S := ev_go i314_1406 rfl
theorem i314_1407 : insAt 314 1407 = some (.lcmp, 1, (0, 0, 0, 0), 0) := rfl
theorem s314_1407 {c : Nat → List AV → SS → Option Out} {l0 l1 l2 l3 l4 l5 l6 l7 : Option AV} {x y : Int64} {L2 : List (Nat × AV)} {St : List AV} {S : SS} : ev c 314 1407 [l0, l1, l2, l3, l4, l5, l6, l7] L2 (aL y :: aL x :: St) S = ev c 314 1408 [l0, l1, l2, l3, l4, l5, l6, l7] L2 (aI (if x < y then -1 else if x = y then 0 else 1) :: St) S := ev_go i314_1407 rfl
theorem i314_1408 : insAt 314 1408 = some (.ifCond .eq 5, 3, (0, 0, 0, 0), 0) := rfl
theorem s314_1408 {c : Nat → List AV → SS → Option Out} {l0 l1 l2 l3 l4 l5 l6 l7 : Option AV} {x : Int32} {L2 : List (Nat × AV)} {St : List AV} {S : SS} : ev c 314 1408 [l0, l1, l2, l3, l4, l5, l6, l7] L2 (aI x :: St) S = if x = 0 then ev c 314 1413 [l0, l1, l2, l3, l4, l5, l6, l7] L2 St S else ev c 314 1411 [l0, l1, l2, l3, l4, l5, l6, l7] L2 St S := ev_br i314_1408 rfl
theorem i314_1411 : insAt 314 1411 = some (.iconst 0, 1, (0, 0, 0, 0), 0) := rfl
theorem s314_1411 {c : Nat → List AV → SS → Option Out} {l0 l1 l2 l3 l4 l5 l6 l7 : Option AV} {L2 : List (Nat × AV)} {St : List AV} {S : SS} : ev c 314 1411 [l0, l1, l2, l3, l4, l5, l6, l7] L2 St S = ev c 314 1412 [l0, l1, l2, l3, l4, l5, l6, l7] L2 (aI 0 :: St) S := ev_go i314_1411 rfl
theorem i314_1412 : insAt 314 1412 = some (.ireturn, 1, (0, 0, 0, 0), 0) := rfl
theorem s314_1412 {c : Nat → List AV → SS → Option Out} {l0 l1 l2 l3 l4 l5 l6 l7 : Option AV} {x : Int32} {L2 : List (Nat × AV)} {St : List AV} {S : SS} : ev c 314 1412 [l0, l1, l2, l3, l4, l5, l6, l7] L2 [aI x] S = if x = 0 ∨ x = 1 then some (.inl (some (aI x)), S) else none := ev_rt i314_1412 rfl
theorem i314_1413 : insAt 314 1413 = some (.goto 1386, 3, (0, 0, 0, 0), 0) := rfl
theorem s314_1413 {c : Nat → List AV → SS → Option Out} {l0 l1 l2 l3 l4 l5 l6 l7 : Option AV} {L2 : List (Nat × AV)} {St : List AV} {S : SS} : ev c 314 1413 [l0, l1, l2, l3, l4, l5, l6, l7] L2 St S = ev c 314 2799 [l0, l1, l2, l3, l4, l5, l6, l7] L2 St S := ev_go i314_1413 rfl
theorem i314_1416 : insAt 314 1416 = some (.aload_n 1, 1, (0, 0, 0, 0), 0) := rfl
theorem s314_1416 {c : Nat → List AV → SS → Option Out} {l0 l2 l3 l4 l5 l6 l7 : Option AV} {o : OId} {L2 : List (Nat × AV)} {St : List AV} {S : SS} : ev c 314 1416 [l0, some (aR o), l2, l3, l4, l5, l6, l7] L2 St S = ev c 314 1417 [l0, some (aR o), l2, l3, l4, l5, l6, l7] L2 (aR o :: St) S := ev_go i314_1416 rfl
theorem i314_1417 : insAt 314 1417 = some (.aload_n 0, 1, (0, 0, 0, 0), 0) := rfl
theorem s314_1417 {c : Nat → List AV → SS → Option Out} {l1 l2 l3 l4 l5 l6 l7 : Option AV} {o : OId} {L2 : List (Nat × AV)} {St : List AV} {S : SS} : ev c 314 1417 [some (aR o), l1, l2, l3, l4, l5, l6, l7] L2 St S = ev c 314 1418 [some (aR o), l1, l2, l3, l4, l5, l6, l7] L2 (aR o :: St) S := ev_go i314_1417 rfl
theorem i314_1418 : insAt 314 1418 = some (.iload 5, 2, (0, 0, 0, 0), 0) := rfl
theorem s314_1418 {c : Nat → List AV → SS → Option Out} {l0 l1 l2 l3 l4 l6 l7 : Option AV} {x : Int32} {L2 : List (Nat × AV)} {St : List AV} {S : SS} : ev c 314 1418 [l0, l1, l2, l3, l4, some (aI x), l6, l7] L2 St S = ev c 314 1420 [l0, l1, l2, l3, l4, some (aI x), l6, l7] L2 (aI x :: St) S := ev_go i314_1418 rfl
theorem i314_1420 : insAt 314 1420 = some (.iconst 1, 1, (0, 0, 0, 0), 0) := rfl
theorem s314_1420 {c : Nat → List AV → SS → Option Out} {l0 l1 l2 l3 l4 l5 l6 l7 : Option AV} {L2 : List (Nat × AV)} {St : List AV} {S : SS} : ev c 314 1420 [l0, l1, l2, l3, l4, l5, l6, l7] L2 St S = ev c 314 1421 [l0, l1, l2, l3, l4, l5, l6, l7] L2 (aI 1 :: St) S := ev_go i314_1420 rfl
theorem i314_1421 : insAt 314 1421 = some (.iadd, 1, (0, 0, 0, 0), 0) := rfl
theorem s314_1421 {c : Nat → List AV → SS → Option Out} {l0 l1 l2 l3 l4 l5 l6 l7 : Option AV} {x y : Int32} {L2 : List (Nat × AV)} {St : List AV} {S : SS} : ev c 314 1421 [l0, l1, l2, l3, l4, l5, l6, l7] L2 (aI y :: aI x :: St) S = ev c 314 1422 [l0, l1, l2, l3, l4, l5, l6, l7] L2 (aI (x + y) :: St) S := ev_go i314_1421 rfl
theorem i314_1422 : insAt 314 1422 = some (.iaload, 1, (0, 0, 0, 0), 0) := rfl
theorem s314_1422 {c : Nat → List AV → SS → Option Out} {l0 l1 l2 l3 l4 l5 l6 l7 : Option AV} {i : Int32} {o : OId} {L2 : List (Nat × AV)} {St : List AV} {S : SS} : ev c 314 1422 [l0, l1, l2, l3, l4, l5, l6, l7] L2 (aI i :: aR o :: St) S = kI o i (ev c 314 1423 [l0, l1, l2, l3, l4, l5, l6, l7] L2 (aI (agI S o i.toNatClampNeg) :: St) S) := ev_iaload i314_1422
theorem i314_1423 : insAt 314 1423 = some (.aload_n 0, 1, (0, 0, 0, 0), 0) := rfl
theorem s314_1423 {c : Nat → List AV → SS → Option Out} {l1 l2 l3 l4 l5 l6 l7 : Option AV} {o : OId} {L2 : List (Nat × AV)} {St : List AV} {S : SS} : ev c 314 1423 [some (aR o), l1, l2, l3, l4, l5, l6, l7] L2 St S = ev c 314 1424 [some (aR o), l1, l2, l3, l4, l5, l6, l7] L2 (aR o :: St) S := ev_go i314_1423 rfl
theorem i314_1424 : insAt 314 1424 = some (.iload 5, 2, (0, 0, 0, 0), 0) := rfl
theorem s314_1424 {c : Nat → List AV → SS → Option Out} {l0 l1 l2 l3 l4 l6 l7 : Option AV} {x : Int32} {L2 : List (Nat × AV)} {St : List AV} {S : SS} : ev c 314 1424 [l0, l1, l2, l3, l4, some (aI x), l6, l7] L2 St S = ev c 314 1426 [l0, l1, l2, l3, l4, some (aI x), l6, l7] L2 (aI x :: St) S := ev_go i314_1424 rfl
theorem i314_1426 : insAt 314 1426 = some (.iconst 2, 1, (0, 0, 0, 0), 0) := rfl
theorem s314_1426 {c : Nat → List AV → SS → Option Out} {l0 l1 l2 l3 l4 l5 l6 l7 : Option AV} {L2 : List (Nat × AV)} {St : List AV} {S : SS} : ev c 314 1426 [l0, l1, l2, l3, l4, l5, l6, l7] L2 St S = ev c 314 1427 [l0, l1, l2, l3, l4, l5, l6, l7] L2 (aI 2 :: St) S := ev_go i314_1426 rfl
theorem i314_1427 : insAt 314 1427 = some (.iadd, 1, (0, 0, 0, 0), 0) := rfl
theorem s314_1427 {c : Nat → List AV → SS → Option Out} {l0 l1 l2 l3 l4 l5 l6 l7 : Option AV} {x y : Int32} {L2 : List (Nat × AV)} {St : List AV} {S : SS} : ev c 314 1427 [l0, l1, l2, l3, l4, l5, l6, l7] L2 (aI y :: aI x :: St) S = ev c 314 1428 [l0, l1, l2, l3, l4, l5, l6, l7] L2 (aI (x + y) :: St) S := ev_go i314_1427 rfl
theorem i314_1428 : insAt 314 1428 = some (.iaload, 1, (0, 0, 0, 0), 0) := rfl
theorem s314_1428 {c : Nat → List AV → SS → Option Out} {l0 l1 l2 l3 l4 l5 l6 l7 : Option AV} {i : Int32} {o : OId} {L2 : List (Nat × AV)} {St : List AV} {S : SS} : ev c 314 1428 [l0, l1, l2, l3, l4, l5, l6, l7] L2 (aI i :: aR o :: St) S = kI o i (ev c 314 1429 [l0, l1, l2, l3, l4, l5, l6, l7] L2 (aI (agI S o i.toNatClampNeg) :: St) S) := ev_iaload i314_1428
theorem i314_1429 : insAt 314 1429 = some (.aload_n 3, 1, (0, 0, 0, 0), 0) := rfl
theorem s314_1429 {c : Nat → List AV → SS → Option Out} {l0 l1 l2 l4 l5 l6 l7 : Option AV} {o : OId} {L2 : List (Nat × AV)} {St : List AV} {S : SS} : ev c 314 1429 [l0, l1, l2, some (aR o), l4, l5, l6, l7] L2 St S = ev c 314 1430 [l0, l1, l2, some (aR o), l4, l5, l6, l7] L2 (aR o :: St) S := ev_go i314_1429 rfl
theorem i314_1430 : insAt 314 1430 = some (.invokestatic 235, 3, (125, 4, 0, 0), 0) := rfl
theorem s314_1430 {c : Nat → List AV → SS → Option Out} {l0 l1 l2 l3 l4 l5 l6 l7 : Option AV} {a0 : OId} {a1 : Int32} {a2 : Int32} {a3 : OId} {L2 : List (Nat × AV)} {S : SS} : ev c 314 1430 [l0, l1, l2, l3, l4, l5, l6, l7] L2 [aR a3, aI a2, aI a1, aR a0] S = ck (c 125 [aR a0, aI a1, aI a2, aR a3] S) (fun v S' => ev c 314 1433 [l0, l1, l2, l3, l4, l5, l6, l7] L2 (v.toList ++ []) S') := ev_call i314_1430 rfl
theorem i314_1433 : insAt 314 1433 = some (.istore 6, 2, (0, 0, 0, 0), 0) := rfl
theorem s314_1433 {c : Nat → List AV → SS → Option Out} {l0 l1 l2 l3 l4 l5 l6 l7 : Option AV} {x : Int32} {L2 : List (Nat × AV)} {St : List AV} {S : SS} : ev c 314 1433 [l0, l1, l2, l3, l4, l5, l6, l7] L2 (aI x :: St) S = ev c 314 1435 [l0, l1, l2, l3, l4, l5, some (aI x), l7] (kil L2 6) St S := ev_go i314_1433 rfl
theorem i314_1435 : insAt 314 1435 = some (.aload_n 2, 1, (0, 0, 0, 0), 0) := rfl
theorem s314_1435 {c : Nat → List AV → SS → Option Out} {l0 l1 l3 l4 l5 l6 l7 : Option AV} {o : OId} {L2 : List (Nat × AV)} {St : List AV} {S : SS} : ev c 314 1435 [l0, l1, some (aR o), l3, l4, l5, l6, l7] L2 St S = ev c 314 1436 [l0, l1, some (aR o), l3, l4, l5, l6, l7] L2 (aR o :: St) S := ev_go i314_1435 rfl
theorem i314_1436 : insAt 314 1436 = some (.aload_n 0, 1, (0, 0, 0, 0), 0) := rfl
theorem s314_1436 {c : Nat → List AV → SS → Option Out} {l1 l2 l3 l4 l5 l6 l7 : Option AV} {o : OId} {L2 : List (Nat × AV)} {St : List AV} {S : SS} : ev c 314 1436 [some (aR o), l1, l2, l3, l4, l5, l6, l7] L2 St S = ev c 314 1437 [some (aR o), l1, l2, l3, l4, l5, l6, l7] L2 (aR o :: St) S := ev_go i314_1436 rfl
theorem i314_1437 : insAt 314 1437 = some (.iload 5, 2, (0, 0, 0, 0), 0) := rfl
theorem s314_1437 {c : Nat → List AV → SS → Option Out} {l0 l1 l2 l3 l4 l6 l7 : Option AV} {x : Int32} {L2 : List (Nat × AV)} {St : List AV} {S : SS} : ev c 314 1437 [l0, l1, l2, l3, l4, some (aI x), l6, l7] L2 St S = ev c 314 1439 [l0, l1, l2, l3, l4, some (aI x), l6, l7] L2 (aI x :: St) S := ev_go i314_1437 rfl
theorem i314_1439 : insAt 314 1439 = some (.iconst 1, 1, (0, 0, 0, 0), 0) := rfl
theorem s314_1439 {c : Nat → List AV → SS → Option Out} {l0 l1 l2 l3 l4 l5 l6 l7 : Option AV} {L2 : List (Nat × AV)} {St : List AV} {S : SS} : ev c 314 1439 [l0, l1, l2, l3, l4, l5, l6, l7] L2 St S = ev c 314 1440 [l0, l1, l2, l3, l4, l5, l6, l7] L2 (aI 1 :: St) S := ev_go i314_1439 rfl
theorem i314_1440 : insAt 314 1440 = some (.iadd, 1, (0, 0, 0, 0), 0) := rfl
theorem s314_1440 {c : Nat → List AV → SS → Option Out} {l0 l1 l2 l3 l4 l5 l6 l7 : Option AV} {x y : Int32} {L2 : List (Nat × AV)} {St : List AV} {S : SS} : ev c 314 1440 [l0, l1, l2, l3, l4, l5, l6, l7] L2 (aI y :: aI x :: St) S = ev c 314 1441 [l0, l1, l2, l3, l4, l5, l6, l7] L2 (aI (x + y) :: St) S := ev_go i314_1440 rfl
theorem i314_1441 : insAt 314 1441 = some (.iaload, 1, (0, 0, 0, 0), 0) := rfl
theorem s314_1441 {c : Nat → List AV → SS → Option Out} {l0 l1 l2 l3 l4 l5 l6 l7 : Option AV} {i : Int32} {o : OId} {L2 : List (Nat × AV)} {St : List AV} {S : SS} : ev c 314 1441 [l0, l1, l2, l3, l4, l5, l6, l7] L2 (aI i :: aR o :: St) S = kI o i (ev c 314 1442 [l0, l1, l2, l3, l4, l5, l6, l7] L2 (aI (agI S o i.toNatClampNeg) :: St) S) := ev_iaload i314_1441
theorem i314_1442 : insAt 314 1442 = some (.aload_n 0, 1, (0, 0, 0, 0), 0) := rfl
theorem s314_1442 {c : Nat → List AV → SS → Option Out} {l1 l2 l3 l4 l5 l6 l7 : Option AV} {o : OId} {L2 : List (Nat × AV)} {St : List AV} {S : SS} : ev c 314 1442 [some (aR o), l1, l2, l3, l4, l5, l6, l7] L2 St S = ev c 314 1443 [some (aR o), l1, l2, l3, l4, l5, l6, l7] L2 (aR o :: St) S := ev_go i314_1442 rfl
theorem i314_1443 : insAt 314 1443 = some (.iload 5, 2, (0, 0, 0, 0), 0) := rfl
theorem s314_1443 {c : Nat → List AV → SS → Option Out} {l0 l1 l2 l3 l4 l6 l7 : Option AV} {x : Int32} {L2 : List (Nat × AV)} {St : List AV} {S : SS} : ev c 314 1443 [l0, l1, l2, l3, l4, some (aI x), l6, l7] L2 St S = ev c 314 1445 [l0, l1, l2, l3, l4, some (aI x), l6, l7] L2 (aI x :: St) S := ev_go i314_1443 rfl
theorem i314_1445 : insAt 314 1445 = some (.iconst 2, 1, (0, 0, 0, 0), 0) := rfl
theorem s314_1445 {c : Nat → List AV → SS → Option Out} {l0 l1 l2 l3 l4 l5 l6 l7 : Option AV} {L2 : List (Nat × AV)} {St : List AV} {S : SS} : ev c 314 1445 [l0, l1, l2, l3, l4, l5, l6, l7] L2 St S = ev c 314 1446 [l0, l1, l2, l3, l4, l5, l6, l7] L2 (aI 2 :: St) S := ev_go i314_1445 rfl
theorem i314_1446 : insAt 314 1446 = some (.iadd, 1, (0, 0, 0, 0), 0) := rfl
theorem s314_1446 {c : Nat → List AV → SS → Option Out} {l0 l1 l2 l3 l4 l5 l6 l7 : Option AV} {x y : Int32} {L2 : List (Nat × AV)} {St : List AV} {S : SS} : ev c 314 1446 [l0, l1, l2, l3, l4, l5, l6, l7] L2 (aI y :: aI x :: St) S = ev c 314 1447 [l0, l1, l2, l3, l4, l5, l6, l7] L2 (aI (x + y) :: St) S := ev_go i314_1446 rfl
theorem i314_1447 : insAt 314 1447 = some (.iaload, 1, (0, 0, 0, 0), 0) := rfl
theorem s314_1447 {c : Nat → List AV → SS → Option Out} {l0 l1 l2 l3 l4 l5 l6 l7 : Option AV} {i : Int32} {o : OId} {L2 : List (Nat × AV)} {St : List AV} {S : SS} : ev c 314 1447 [l0, l1, l2, l3, l4, l5, l6, l7] L2 (aI i :: aR o :: St) S = kI o i (ev c 314 1448 [l0, l1, l2, l3, l4, l5, l6, l7] L2 (aI (agI S o i.toNatClampNeg) :: St) S) := ev_iaload i314_1447
theorem i314_1448 : insAt 314 1448 = some (.invokevirtual 237, 3, (280, 2, 2, 12), 0) := rfl
theorem s314_1448 {c : Nat → List AV → SS → Option Out} {l0 l1 l2 l3 l4 l5 l6 l7 : Option AV} {a0 : Int32} {a1 : Int32} {j t : Nat} {L2 : List (Nat × AV)} {S : SS} : ev c 314 1448 [l0, l1, l2, l3, l4, l5, l6, l7] L2 [aI a1, aI a0, aR (12, j, t)] S = ck (c 280 [aR (12, j, t), aI a0, aI a1] S) (fun v S' => ev c 314 1451 [l0, l1, l2, l3, l4, l5, l6, l7] L2 (v.toList ++ []) S') := ev_call i314_1448 rfl
theorem i314_1451 : insAt 314 1451 = some (.istore 7, 2, (0, 0, 0, 0), 0) := rfl
theorem s314_1451 {c : Nat → List AV → SS → Option Out} {l0 l1 l2 l3 l4 l5 l6 l7 : Option AV} {x : Int32} {L2 : List (Nat × AV)} {St : List AV} {S : SS} : ev c 314 1451 [l0, l1, l2, l3, l4, l5, l6, l7] L2 (aI x :: St) S = ev c 314 1453 [l0, l1, l2, l3, l4, l5, l6, some (aI x)] (kil L2 7) St S := ev_go i314_1451 rfl
theorem i314_1453 : insAt 314 1453 = some (.aload_n 2, 1, (0, 0, 0, 0), 0) := rfl
theorem s314_1453 {c : Nat → List AV → SS → Option Out} {l0 l1 l3 l4 l5 l6 l7 : Option AV} {o : OId} {L2 : List (Nat × AV)} {St : List AV} {S : SS} : ev c 314 1453 [l0, l1, some (aR o), l3, l4, l5, l6, l7] L2 St S = ev c 314 1454 [l0, l1, some (aR o), l3, l4, l5, l6, l7] L2 (aR o :: St) S := ev_go i314_1453 rfl
theorem i314_1454 : insAt 314 1454 = some (.invokevirtual 149, 3, (218, 0, 2, 12), 0) := rfl
theorem s314_1454 {c : Nat → List AV → SS → Option Out} {l0 l1 l2 l3 l4 l5 l6 l7 : Option AV} {j t : Nat} {L2 : List (Nat × AV)} {S : SS} : ev c 314 1454 [l0, l1, l2, l3, l4, l5, l6, l7] L2 [aR (12, j, t)] S = ck (c 218 [aR (12, j, t)] S) (fun v S' => ev c 314 1457 [l0, l1, l2, l3, l4, l5, l6, l7] L2 (v.toList ++ []) S') := ev_call i314_1454 rfl
theorem i314_1457 : insAt 314 1457 = some (.iload 6, 2, (0, 0, 0, 0), 0) := rfl
theorem s314_1457 {c : Nat → List AV → SS → Option Out} {l0 l1 l2 l3 l4 l5 l7 : Option AV} {x : Int32} {L2 : List (Nat × AV)} {St : List AV} {S : SS} : ev c 314 1457 [l0, l1, l2, l3, l4, l5, some (aI x), l7] L2 St S = ev c 314 1459 [l0, l1, l2, l3, l4, l5, some (aI x), l7] L2 (aI x :: St) S := ev_go i314_1457 rfl
theorem i314_1459 : insAt 314 1459 = some (.if_icmp .eq 5, 3, (0, 0, 0, 0), 0) := rfl
theorem s314_1459 {c : Nat → List AV → SS → Option Out} {l0 l1 l2 l3 l4 l5 l6 l7 : Option AV} {x y : Int32} {L2 : List (Nat × AV)} {St : List AV} {S : SS} : ev c 314 1459 [l0, l1, l2, l3, l4, l5, l6, l7] L2 (aI y :: aI x :: St) S = if x = y then ev c 314 1464 [l0, l1, l2, l3, l4, l5, l6, l7] L2 St S else ev c 314 1462 [l0, l1, l2, l3, l4, l5, l6, l7] L2 St S := ev_br i314_1459 rfl
theorem i314_1462 : insAt 314 1462 = some (.iconst 0, 1, (0, 0, 0, 0), 0) := rfl
theorem s314_1462 {c : Nat → List AV → SS → Option Out} {l0 l1 l2 l3 l4 l5 l6 l7 : Option AV} {L2 : List (Nat × AV)} {St : List AV} {S : SS} : ev c 314 1462 [l0, l1, l2, l3, l4, l5, l6, l7] L2 St S = ev c 314 1463 [l0, l1, l2, l3, l4, l5, l6, l7] L2 (aI 0 :: St) S := ev_go i314_1462 rfl
theorem i314_1463 : insAt 314 1463 = some (.ireturn, 1, (0, 0, 0, 0), 0) := rfl
theorem s314_1463 {c : Nat → List AV → SS → Option Out} {l0 l1 l2 l3 l4 l5 l6 l7 : Option AV} {x : Int32} {L2 : List (Nat × AV)} {St : List AV} {S : SS} : ev c 314 1463 [l0, l1, l2, l3, l4, l5, l6, l7] L2 [aI x] S = if x = 0 ∨ x = 1 then some (.inl (some (aI x)), S) else none := ev_rt i314_1463 rfl
theorem i314_1464 : insAt 314 1464 = some (.iload 6, 2, (0, 0, 0, 0), 0) := rfl
theorem s314_1464 {c : Nat → List AV → SS → Option Out} {l0 l1 l2 l3 l4 l5 l7 : Option AV} {x : Int32} {L2 : List (Nat × AV)} {St : List AV} {S : SS} : ev c 314 1464 [l0, l1, l2, l3, l4, l5, some (aI x), l7] L2 St S = ev c 314 1466 [l0, l1, l2, l3, l4, l5, some (aI x), l7] L2 (aI x :: St) S := ev_go i314_1464 rfl
theorem i314_1466 : insAt 314 1466 = some (.ifCond .ne 15, 3, (0, 0, 0, 0), 0) := rfl
theorem s314_1466 {c : Nat → List AV → SS → Option Out} {l0 l1 l2 l3 l4 l5 l6 l7 : Option AV} {x : Int32} {L2 : List (Nat × AV)} {St : List AV} {S : SS} : ev c 314 1466 [l0, l1, l2, l3, l4, l5, l6, l7] L2 (aI x :: St) S = if x = 0 then ev c 314 1469 [l0, l1, l2, l3, l4, l5, l6, l7] L2 St S else ev c 314 1481 [l0, l1, l2, l3, l4, l5, l6, l7] L2 St S := (ev_br i314_1466 rfl).trans (ite_not _ _ _)
theorem i314_1469 : insAt 314 1469 = some (.aload_n 3, 1, (0, 0, 0, 0), 0) := rfl
theorem s314_1469 {c : Nat → List AV → SS → Option Out} {l0 l1 l2 l4 l5 l6 l7 : Option AV} {o : OId} {L2 : List (Nat × AV)} {St : List AV} {S : SS} : ev c 314 1469 [l0, l1, l2, some (aR o), l4, l5, l6, l7] L2 St S = ev c 314 1470 [l0, l1, l2, some (aR o), l4, l5, l6, l7] L2 (aR o :: St) S := ev_go i314_1469 rfl
theorem i314_1470 : insAt 314 1470 = some (.iconst 0, 1, (0, 0, 0, 0), 0) := rfl
theorem s314_1470 {c : Nat → List AV → SS → Option Out} {l0 l1 l2 l3 l4 l5 l6 l7 : Option AV} {L2 : List (Nat × AV)} {St : List AV} {S : SS} : ev c 314 1470 [l0, l1, l2, l3, l4, l5, l6, l7] L2 St S = ev c 314 1471 [l0, l1, l2, l3, l4, l5, l6, l7] L2 (aI 0 :: St) S := ev_go i314_1470 rfl
theorem i314_1471 : insAt 314 1471 = some (.laload, 1, (0, 0, 0, 0), 0) := rfl
theorem s314_1471 {c : Nat → List AV → SS → Option Out} {l0 l1 l2 l3 l4 l5 l6 l7 : Option AV} {i : Int32} {o : OId} {L2 : List (Nat × AV)} {St : List AV} {S : SS} : ev c 314 1471 [l0, l1, l2, l3, l4, l5, l6, l7] L2 (aI i :: aR o :: St) S = kJ o i (ev c 314 1472 [l0, l1, l2, l3, l4, l5, l6, l7] L2 (aL (toL (S.2.1 o i.toNatClampNeg)) :: St) S) := ev_laload i314_1471
theorem i314_1472 : insAt 314 1472 = some (.iload 7, 2, (0, 0, 0, 0), 0) := rfl
theorem s314_1472 {c : Nat → List AV → SS → Option Out} {l0 l1 l2 l3 l4 l5 l6 : Option AV} {x : Int32} {L2 : List (Nat × AV)} {St : List AV} {S : SS} : ev c 314 1472 [l0, l1, l2, l3, l4, l5, l6, some (aI x)] L2 St S = ev c 314 1474 [l0, l1, l2, l3, l4, l5, l6, some (aI x)] L2 (aI x :: St) S := ev_go i314_1472 rfl
theorem i314_1474 : insAt 314 1474 = some (.i2l, 1, (0, 0, 0, 0), 0) := rfl
theorem s314_1474 {c : Nat → List AV → SS → Option Out} {l0 l1 l2 l3 l4 l5 l6 l7 : Option AV} {x : Int32} {L2 : List (Nat × AV)} {St : List AV} {S : SS} : ev c 314 1474 [l0, l1, l2, l3, l4, l5, l6, l7] L2 (aI x :: St) S = ev c 314 1475 [l0, l1, l2, l3, l4, l5, l6, l7] L2 (aL x.toInt64 :: St) S := ev_go i314_1474 rfl
theorem i314_1475 : insAt 314 1475 = some (.lcmp, 1, (0, 0, 0, 0), 0) := rfl
theorem s314_1475 {c : Nat → List AV → SS → Option Out} {l0 l1 l2 l3 l4 l5 l6 l7 : Option AV} {x y : Int64} {L2 : List (Nat × AV)} {St : List AV} {S : SS} : ev c 314 1475 [l0, l1, l2, l3, l4, l5, l6, l7] L2 (aL y :: aL x :: St) S = ev c 314 1476 [l0, l1, l2, l3, l4, l5, l6, l7] L2 (aI (if x < y then -1 else if x = y then 0 else 1) :: St) S := ev_go i314_1475 rfl
theorem i314_1476 : insAt 314 1476 = some (.ifCond .eq 5, 3, (0, 0, 0, 0), 0) := rfl
theorem s314_1476 {c : Nat → List AV → SS → Option Out} {l0 l1 l2 l3 l4 l5 l6 l7 : Option AV} {x : Int32} {L2 : List (Nat × AV)} {St : List AV} {S : SS} : ev c 314 1476 [l0, l1, l2, l3, l4, l5, l6, l7] L2 (aI x :: St) S = if x = 0 then ev c 314 1481 [l0, l1, l2, l3, l4, l5, l6, l7] L2 St S else ev c 314 1479 [l0, l1, l2, l3, l4, l5, l6, l7] L2 St S := ev_br i314_1476 rfl
theorem i314_1479 : insAt 314 1479 = some (.iconst 0, 1, (0, 0, 0, 0), 0) := rfl
theorem s314_1479 {c : Nat → List AV → SS → Option Out} {l0 l1 l2 l3 l4 l5 l6 l7 : Option AV} {L2 : List (Nat × AV)} {St : List AV} {S : SS} : ev c 314 1479 [l0, l1, l2, l3, l4, l5, l6, l7] L2 St S = ev c 314 1480 [l0, l1, l2, l3, l4, l5, l6, l7] L2 (aI 0 :: St) S := ev_go i314_1479 rfl
theorem i314_1480 : insAt 314 1480 = some (.ireturn, 1, (0, 0, 0, 0), 0) := rfl
theorem s314_1480 {c : Nat → List AV → SS → Option Out} {l0 l1 l2 l3 l4 l5 l6 l7 : Option AV} {x : Int32} {L2 : List (Nat × AV)} {St : List AV} {S : SS} : ev c 314 1480 [l0, l1, l2, l3, l4, l5, l6, l7] L2 [aI x] S = if x = 0 ∨ x = 1 then some (.inl (some (aI x)), S) else none := ev_rt i314_1480 rfl
theorem i314_1481 : insAt 314 1481 = some (.goto 1318, 3, (0, 0, 0, 0), 0) := rfl
theorem s314_1481 {c : Nat → List AV → SS → Option Out} {l0 l1 l2 l3 l4 l5 l6 l7 : Option AV} {L2 : List (Nat × AV)} {St : List AV} {S : SS} : ev c 314 1481 [l0, l1, l2, l3, l4, l5, l6, l7] L2 St S = ev c 314 2799 [l0, l1, l2, l3, l4, l5, l6, l7] L2 St S := ev_go i314_1481 rfl
theorem i314_1484 : insAt 314 1484 = some (.aload_n 1, 1, (0, 0, 0, 0), 0) := rfl
theorem s314_1484 {c : Nat → List AV → SS → Option Out} {l0 l2 l3 l4 l5 l6 l7 : Option AV} {o : OId} {L2 : List (Nat × AV)} {St : List AV} {S : SS} : ev c 314 1484 [l0, some (aR o), l2, l3, l4, l5, l6, l7] L2 St S = ev c 314 1485 [l0, some (aR o), l2, l3, l4, l5, l6, l7] L2 (aR o :: St) S := ev_go i314_1484 rfl
theorem i314_1485 : insAt 314 1485 = some (.aload_n 0, 1, (0, 0, 0, 0), 0) := rfl
theorem s314_1485 {c : Nat → List AV → SS → Option Out} {l1 l2 l3 l4 l5 l6 l7 : Option AV} {o : OId} {L2 : List (Nat × AV)} {St : List AV} {S : SS} : ev c 314 1485 [some (aR o), l1, l2, l3, l4, l5, l6, l7] L2 St S = ev c 314 1486 [some (aR o), l1, l2, l3, l4, l5, l6, l7] L2 (aR o :: St) S := ev_go i314_1485 rfl
theorem i314_1486 : insAt 314 1486 = some (.iload 5, 2, (0, 0, 0, 0), 0) := rfl
theorem s314_1486 {c : Nat → List AV → SS → Option Out} {l0 l1 l2 l3 l4 l6 l7 : Option AV} {x : Int32} {L2 : List (Nat × AV)} {St : List AV} {S : SS} : ev c 314 1486 [l0, l1, l2, l3, l4, some (aI x), l6, l7] L2 St S = ev c 314 1488 [l0, l1, l2, l3, l4, some (aI x), l6, l7] L2 (aI x :: St) S := ev_go i314_1486 rfl
theorem i314_1488 : insAt 314 1488 = some (.iconst 1, 1, (0, 0, 0, 0), 0) := rfl
theorem s314_1488 {c : Nat → List AV → SS → Option Out} {l0 l1 l2 l3 l4 l5 l6 l7 : Option AV} {L2 : List (Nat × AV)} {St : List AV} {S : SS} : ev c 314 1488 [l0, l1, l2, l3, l4, l5, l6, l7] L2 St S = ev c 314 1489 [l0, l1, l2, l3, l4, l5, l6, l7] L2 (aI 1 :: St) S := ev_go i314_1488 rfl
theorem i314_1489 : insAt 314 1489 = some (.iadd, 1, (0, 0, 0, 0), 0) := rfl
theorem s314_1489 {c : Nat → List AV → SS → Option Out} {l0 l1 l2 l3 l4 l5 l6 l7 : Option AV} {x y : Int32} {L2 : List (Nat × AV)} {St : List AV} {S : SS} : ev c 314 1489 [l0, l1, l2, l3, l4, l5, l6, l7] L2 (aI y :: aI x :: St) S = ev c 314 1490 [l0, l1, l2, l3, l4, l5, l6, l7] L2 (aI (x + y) :: St) S := ev_go i314_1489 rfl
theorem i314_1490 : insAt 314 1490 = some (.iaload, 1, (0, 0, 0, 0), 0) := rfl
theorem s314_1490 {c : Nat → List AV → SS → Option Out} {l0 l1 l2 l3 l4 l5 l6 l7 : Option AV} {i : Int32} {o : OId} {L2 : List (Nat × AV)} {St : List AV} {S : SS} : ev c 314 1490 [l0, l1, l2, l3, l4, l5, l6, l7] L2 (aI i :: aR o :: St) S = kI o i (ev c 314 1491 [l0, l1, l2, l3, l4, l5, l6, l7] L2 (aI (agI S o i.toNatClampNeg) :: St) S) := ev_iaload i314_1490
theorem i314_1491 : insAt 314 1491 = some (.aload_n 0, 1, (0, 0, 0, 0), 0) := rfl
theorem s314_1491 {c : Nat → List AV → SS → Option Out} {l1 l2 l3 l4 l5 l6 l7 : Option AV} {o : OId} {L2 : List (Nat × AV)} {St : List AV} {S : SS} : ev c 314 1491 [some (aR o), l1, l2, l3, l4, l5, l6, l7] L2 St S = ev c 314 1492 [some (aR o), l1, l2, l3, l4, l5, l6, l7] L2 (aR o :: St) S := ev_go i314_1491 rfl
theorem i314_1492 : insAt 314 1492 = some (.iload 5, 2, (0, 0, 0, 0), 0) := rfl
theorem s314_1492 {c : Nat → List AV → SS → Option Out} {l0 l1 l2 l3 l4 l6 l7 : Option AV} {x : Int32} {L2 : List (Nat × AV)} {St : List AV} {S : SS} : ev c 314 1492 [l0, l1, l2, l3, l4, some (aI x), l6, l7] L2 St S = ev c 314 1494 [l0, l1, l2, l3, l4, some (aI x), l6, l7] L2 (aI x :: St) S := ev_go i314_1492 rfl
theorem i314_1494 : insAt 314 1494 = some (.iconst 2, 1, (0, 0, 0, 0), 0) := rfl
theorem s314_1494 {c : Nat → List AV → SS → Option Out} {l0 l1 l2 l3 l4 l5 l6 l7 : Option AV} {L2 : List (Nat × AV)} {St : List AV} {S : SS} : ev c 314 1494 [l0, l1, l2, l3, l4, l5, l6, l7] L2 St S = ev c 314 1495 [l0, l1, l2, l3, l4, l5, l6, l7] L2 (aI 2 :: St) S := ev_go i314_1494 rfl
theorem i314_1495 : insAt 314 1495 = some (.iadd, 1, (0, 0, 0, 0), 0) := rfl
theorem s314_1495 {c : Nat → List AV → SS → Option Out} {l0 l1 l2 l3 l4 l5 l6 l7 : Option AV} {x y : Int32} {L2 : List (Nat × AV)} {St : List AV} {S : SS} : ev c 314 1495 [l0, l1, l2, l3, l4, l5, l6, l7] L2 (aI y :: aI x :: St) S = ev c 314 1496 [l0, l1, l2, l3, l4, l5, l6, l7] L2 (aI (x + y) :: St) S := ev_go i314_1495 rfl
theorem i314_1496 : insAt 314 1496 = some (.iaload, 1, (0, 0, 0, 0), 0) := rfl
theorem s314_1496 {c : Nat → List AV → SS → Option Out} {l0 l1 l2 l3 l4 l5 l6 l7 : Option AV} {i : Int32} {o : OId} {L2 : List (Nat × AV)} {St : List AV} {S : SS} : ev c 314 1496 [l0, l1, l2, l3, l4, l5, l6, l7] L2 (aI i :: aR o :: St) S = kI o i (ev c 314 1497 [l0, l1, l2, l3, l4, l5, l6, l7] L2 (aI (agI S o i.toNatClampNeg) :: St) S) := ev_iaload i314_1496
theorem i314_1497 : insAt 314 1497 = some (.aload_n 3, 1, (0, 0, 0, 0), 0) := rfl
theorem s314_1497 {c : Nat → List AV → SS → Option Out} {l0 l1 l2 l4 l5 l6 l7 : Option AV} {o : OId} {L2 : List (Nat × AV)} {St : List AV} {S : SS} : ev c 314 1497 [l0, l1, l2, some (aR o), l4, l5, l6, l7] L2 St S = ev c 314 1498 [l0, l1, l2, some (aR o), l4, l5, l6, l7] L2 (aR o :: St) S := ev_go i314_1497 rfl
theorem i314_1498 : insAt 314 1498 = some (.invokestatic 238, 3, (127, 4, 0, 0), 0) := rfl
theorem s314_1498 {c : Nat → List AV → SS → Option Out} {l0 l1 l2 l3 l4 l5 l6 l7 : Option AV} {a0 : OId} {a1 : Int32} {a2 : Int32} {a3 : OId} {L2 : List (Nat × AV)} {S : SS} : ev c 314 1498 [l0, l1, l2, l3, l4, l5, l6, l7] L2 [aR a3, aI a2, aI a1, aR a0] S = ck (c 127 [aR a0, aI a1, aI a2, aR a3] S) (fun v S' => ev c 314 1501 [l0, l1, l2, l3, l4, l5, l6, l7] L2 (v.toList ++ []) S') := ev_call i314_1498 rfl
theorem i314_1501 : insAt 314 1501 = some (.istore 6, 2, (0, 0, 0, 0), 0) := rfl
theorem s314_1501 {c : Nat → List AV → SS → Option Out} {l0 l1 l2 l3 l4 l5 l6 l7 : Option AV} {x : Int32} {L2 : List (Nat × AV)} {St : List AV} {S : SS} : ev c 314 1501 [l0, l1, l2, l3, l4, l5, l6, l7] L2 (aI x :: St) S = ev c 314 1503 [l0, l1, l2, l3, l4, l5, some (aI x), l7] (kil L2 6) St S := ev_go i314_1501 rfl
theorem i314_1503 : insAt 314 1503 = some (.aload_n 2, 1, (0, 0, 0, 0), 0) := rfl
theorem s314_1503 {c : Nat → List AV → SS → Option Out} {l0 l1 l3 l4 l5 l6 l7 : Option AV} {o : OId} {L2 : List (Nat × AV)} {St : List AV} {S : SS} : ev c 314 1503 [l0, l1, some (aR o), l3, l4, l5, l6, l7] L2 St S = ev c 314 1504 [l0, l1, some (aR o), l3, l4, l5, l6, l7] L2 (aR o :: St) S := ev_go i314_1503 rfl
theorem i314_1504 : insAt 314 1504 = some (.aload_n 0, 1, (0, 0, 0, 0), 0) := rfl
theorem s314_1504 {c : Nat → List AV → SS → Option Out} {l1 l2 l3 l4 l5 l6 l7 : Option AV} {o : OId} {L2 : List (Nat × AV)} {St : List AV} {S : SS} : ev c 314 1504 [some (aR o), l1, l2, l3, l4, l5, l6, l7] L2 St S = ev c 314 1505 [some (aR o), l1, l2, l3, l4, l5, l6, l7] L2 (aR o :: St) S := ev_go i314_1504 rfl
theorem i314_1505 : insAt 314 1505 = some (.iload 5, 2, (0, 0, 0, 0), 0) := rfl
theorem s314_1505 {c : Nat → List AV → SS → Option Out} {l0 l1 l2 l3 l4 l6 l7 : Option AV} {x : Int32} {L2 : List (Nat × AV)} {St : List AV} {S : SS} : ev c 314 1505 [l0, l1, l2, l3, l4, some (aI x), l6, l7] L2 St S = ev c 314 1507 [l0, l1, l2, l3, l4, some (aI x), l6, l7] L2 (aI x :: St) S := ev_go i314_1505 rfl
theorem i314_1507 : insAt 314 1507 = some (.iconst 1, 1, (0, 0, 0, 0), 0) := rfl
theorem s314_1507 {c : Nat → List AV → SS → Option Out} {l0 l1 l2 l3 l4 l5 l6 l7 : Option AV} {L2 : List (Nat × AV)} {St : List AV} {S : SS} : ev c 314 1507 [l0, l1, l2, l3, l4, l5, l6, l7] L2 St S = ev c 314 1508 [l0, l1, l2, l3, l4, l5, l6, l7] L2 (aI 1 :: St) S := ev_go i314_1507 rfl
theorem i314_1508 : insAt 314 1508 = some (.iadd, 1, (0, 0, 0, 0), 0) := rfl
theorem s314_1508 {c : Nat → List AV → SS → Option Out} {l0 l1 l2 l3 l4 l5 l6 l7 : Option AV} {x y : Int32} {L2 : List (Nat × AV)} {St : List AV} {S : SS} : ev c 314 1508 [l0, l1, l2, l3, l4, l5, l6, l7] L2 (aI y :: aI x :: St) S = ev c 314 1509 [l0, l1, l2, l3, l4, l5, l6, l7] L2 (aI (x + y) :: St) S := ev_go i314_1508 rfl
theorem i314_1509 : insAt 314 1509 = some (.iaload, 1, (0, 0, 0, 0), 0) := rfl
theorem s314_1509 {c : Nat → List AV → SS → Option Out} {l0 l1 l2 l3 l4 l5 l6 l7 : Option AV} {i : Int32} {o : OId} {L2 : List (Nat × AV)} {St : List AV} {S : SS} : ev c 314 1509 [l0, l1, l2, l3, l4, l5, l6, l7] L2 (aI i :: aR o :: St) S = kI o i (ev c 314 1510 [l0, l1, l2, l3, l4, l5, l6, l7] L2 (aI (agI S o i.toNatClampNeg) :: St) S) := ev_iaload i314_1509
theorem i314_1510 : insAt 314 1510 = some (.aload_n 0, 1, (0, 0, 0, 0), 0) := rfl
theorem s314_1510 {c : Nat → List AV → SS → Option Out} {l1 l2 l3 l4 l5 l6 l7 : Option AV} {o : OId} {L2 : List (Nat × AV)} {St : List AV} {S : SS} : ev c 314 1510 [some (aR o), l1, l2, l3, l4, l5, l6, l7] L2 St S = ev c 314 1511 [some (aR o), l1, l2, l3, l4, l5, l6, l7] L2 (aR o :: St) S := ev_go i314_1510 rfl
theorem i314_1511 : insAt 314 1511 = some (.iload 5, 2, (0, 0, 0, 0), 0) := rfl
theorem s314_1511 {c : Nat → List AV → SS → Option Out} {l0 l1 l2 l3 l4 l6 l7 : Option AV} {x : Int32} {L2 : List (Nat × AV)} {St : List AV} {S : SS} : ev c 314 1511 [l0, l1, l2, l3, l4, some (aI x), l6, l7] L2 St S = ev c 314 1513 [l0, l1, l2, l3, l4, some (aI x), l6, l7] L2 (aI x :: St) S := ev_go i314_1511 rfl
theorem i314_1513 : insAt 314 1513 = some (.iconst 2, 1, (0, 0, 0, 0), 0) := rfl
theorem s314_1513 {c : Nat → List AV → SS → Option Out} {l0 l1 l2 l3 l4 l5 l6 l7 : Option AV} {L2 : List (Nat × AV)} {St : List AV} {S : SS} : ev c 314 1513 [l0, l1, l2, l3, l4, l5, l6, l7] L2 St S = ev c 314 1514 [l0, l1, l2, l3, l4, l5, l6, l7] L2 (aI 2 :: St) S := ev_go i314_1513 rfl
theorem i314_1514 : insAt 314 1514 = some (.iadd, 1, (0, 0, 0, 0), 0) := rfl
theorem s314_1514 {c : Nat → List AV → SS → Option Out} {l0 l1 l2 l3 l4 l5 l6 l7 : Option AV} {x y : Int32} {L2 : List (Nat × AV)} {St : List AV} {S : SS} : ev c 314 1514 [l0, l1, l2, l3, l4, l5, l6, l7] L2 (aI y :: aI x :: St) S = ev c 314 1515 [l0, l1, l2, l3, l4, l5, l6, l7] L2 (aI (x + y) :: St) S := ev_go i314_1514 rfl
theorem i314_1515 : insAt 314 1515 = some (.iaload, 1, (0, 0, 0, 0), 0) := rfl
theorem s314_1515 {c : Nat → List AV → SS → Option Out} {l0 l1 l2 l3 l4 l5 l6 l7 : Option AV} {i : Int32} {o : OId} {L2 : List (Nat × AV)} {St : List AV} {S : SS} : ev c 314 1515 [l0, l1, l2, l3, l4, l5, l6, l7] L2 (aI i :: aR o :: St) S = kI o i (ev c 314 1516 [l0, l1, l2, l3, l4, l5, l6, l7] L2 (aI (agI S o i.toNatClampNeg) :: St) S) := ev_iaload i314_1515
theorem i314_1516 : insAt 314 1516 = some (.invokevirtual 240, 3, (281, 2, 2, 12), 0) := rfl
theorem s314_1516 {c : Nat → List AV → SS → Option Out} {l0 l1 l2 l3 l4 l5 l6 l7 : Option AV} {a0 : Int32} {a1 : Int32} {j t : Nat} {L2 : List (Nat × AV)} {S : SS} : ev c 314 1516 [l0, l1, l2, l3, l4, l5, l6, l7] L2 [aI a1, aI a0, aR (12, j, t)] S = ck (c 281 [aR (12, j, t), aI a0, aI a1] S) (fun v S' => ev c 314 1519 [l0, l1, l2, l3, l4, l5, l6, l7] L2 (v.toList ++ []) S') := ev_call i314_1516 rfl
theorem i314_1519 : insAt 314 1519 = some (.istore 7, 2, (0, 0, 0, 0), 0) := rfl
theorem s314_1519 {c : Nat → List AV → SS → Option Out} {l0 l1 l2 l3 l4 l5 l6 l7 : Option AV} {x : Int32} {L2 : List (Nat × AV)} {St : List AV} {S : SS} : ev c 314 1519 [l0, l1, l2, l3, l4, l5, l6, l7] L2 (aI x :: St) S = ev c 314 1521 [l0, l1, l2, l3, l4, l5, l6, some (aI x)] (kil L2 7) St S := ev_go i314_1519 rfl
theorem i314_1521 : insAt 314 1521 = some (.aload_n 2, 1, (0, 0, 0, 0), 0) := rfl
theorem s314_1521 {c : Nat → List AV → SS → Option Out} {l0 l1 l3 l4 l5 l6 l7 : Option AV} {o : OId} {L2 : List (Nat × AV)} {St : List AV} {S : SS} : ev c 314 1521 [l0, l1, some (aR o), l3, l4, l5, l6, l7] L2 St S = ev c 314 1522 [l0, l1, some (aR o), l3, l4, l5, l6, l7] L2 (aR o :: St) S := ev_go i314_1521 rfl
theorem i314_1522 : insAt 314 1522 = some (.invokevirtual 149, 3, (218, 0, 2, 12), 0) := rfl
theorem s314_1522 {c : Nat → List AV → SS → Option Out} {l0 l1 l2 l3 l4 l5 l6 l7 : Option AV} {j t : Nat} {L2 : List (Nat × AV)} {S : SS} : ev c 314 1522 [l0, l1, l2, l3, l4, l5, l6, l7] L2 [aR (12, j, t)] S = ck (c 218 [aR (12, j, t)] S) (fun v S' => ev c 314 1525 [l0, l1, l2, l3, l4, l5, l6, l7] L2 (v.toList ++ []) S') := ev_call i314_1522 rfl
theorem i314_1525 : insAt 314 1525 = some (.iload 6, 2, (0, 0, 0, 0), 0) := rfl
theorem s314_1525 {c : Nat → List AV → SS → Option Out} {l0 l1 l2 l3 l4 l5 l7 : Option AV} {x : Int32} {L2 : List (Nat × AV)} {St : List AV} {S : SS} : ev c 314 1525 [l0, l1, l2, l3, l4, l5, some (aI x), l7] L2 St S = ev c 314 1527 [l0, l1, l2, l3, l4, l5, some (aI x), l7] L2 (aI x :: St) S := ev_go i314_1525 rfl
theorem i314_1527 : insAt 314 1527 = some (.if_icmp .eq 5, 3, (0, 0, 0, 0), 0) := rfl
theorem s314_1527 {c : Nat → List AV → SS → Option Out} {l0 l1 l2 l3 l4 l5 l6 l7 : Option AV} {x y : Int32} {L2 : List (Nat × AV)} {St : List AV} {S : SS} : ev c 314 1527 [l0, l1, l2, l3, l4, l5, l6, l7] L2 (aI y :: aI x :: St) S = if x = y then ev c 314 1532 [l0, l1, l2, l3, l4, l5, l6, l7] L2 St S else ev c 314 1530 [l0, l1, l2, l3, l4, l5, l6, l7] L2 St S := ev_br i314_1527 rfl
theorem i314_1530 : insAt 314 1530 = some (.iconst 0, 1, (0, 0, 0, 0), 0) := rfl
theorem s314_1530 {c : Nat → List AV → SS → Option Out} {l0 l1 l2 l3 l4 l5 l6 l7 : Option AV} {L2 : List (Nat × AV)} {St : List AV} {S : SS} : ev c 314 1530 [l0, l1, l2, l3, l4, l5, l6, l7] L2 St S = ev c 314 1531 [l0, l1, l2, l3, l4, l5, l6, l7] L2 (aI 0 :: St) S := ev_go i314_1530 rfl
theorem i314_1531 : insAt 314 1531 = some (.ireturn, 1, (0, 0, 0, 0), 0) := rfl
theorem s314_1531 {c : Nat → List AV → SS → Option Out} {l0 l1 l2 l3 l4 l5 l6 l7 : Option AV} {x : Int32} {L2 : List (Nat × AV)} {St : List AV} {S : SS} : ev c 314 1531 [l0, l1, l2, l3, l4, l5, l6, l7] L2 [aI x] S = if x = 0 ∨ x = 1 then some (.inl (some (aI x)), S) else none := ev_rt i314_1531 rfl
theorem i314_1532 : insAt 314 1532 = some (.iload 6, 2, (0, 0, 0, 0), 0) := rfl
theorem s314_1532 {c : Nat → List AV → SS → Option Out} {l0 l1 l2 l3 l4 l5 l7 : Option AV} {x : Int32} {L2 : List (Nat × AV)} {St : List AV} {S : SS} : ev c 314 1532 [l0, l1, l2, l3, l4, l5, some (aI x), l7] L2 St S = ev c 314 1534 [l0, l1, l2, l3, l4, l5, some (aI x), l7] L2 (aI x :: St) S := ev_go i314_1532 rfl
theorem i314_1534 : insAt 314 1534 = some (.ifCond .ne 15, 3, (0, 0, 0, 0), 0) := rfl
theorem s314_1534 {c : Nat → List AV → SS → Option Out} {l0 l1 l2 l3 l4 l5 l6 l7 : Option AV} {x : Int32} {L2 : List (Nat × AV)} {St : List AV} {S : SS} : ev c 314 1534 [l0, l1, l2, l3, l4, l5, l6, l7] L2 (aI x :: St) S = if x = 0 then ev c 314 1537 [l0, l1, l2, l3, l4, l5, l6, l7] L2 St S else ev c 314 1549 [l0, l1, l2, l3, l4, l5, l6, l7] L2 St S := (ev_br i314_1534 rfl).trans (ite_not _ _ _)
theorem i314_1537 : insAt 314 1537 = some (.aload_n 3, 1, (0, 0, 0, 0), 0) := rfl
theorem s314_1537 {c : Nat → List AV → SS → Option Out} {l0 l1 l2 l4 l5 l6 l7 : Option AV} {o : OId} {L2 : List (Nat × AV)} {St : List AV} {S : SS} : ev c 314 1537 [l0, l1, l2, some (aR o), l4, l5, l6, l7] L2 St S = ev c 314 1538 [l0, l1, l2, some (aR o), l4, l5, l6, l7] L2 (aR o :: St) S := ev_go i314_1537 rfl
theorem i314_1538 : insAt 314 1538 = some (.iconst 0, 1, (0, 0, 0, 0), 0) := rfl
theorem s314_1538 {c : Nat → List AV → SS → Option Out} {l0 l1 l2 l3 l4 l5 l6 l7 : Option AV} {L2 : List (Nat × AV)} {St : List AV} {S : SS} : ev c 314 1538 [l0, l1, l2, l3, l4, l5, l6, l7] L2 St S = ev c 314 1539 [l0, l1, l2, l3, l4, l5, l6, l7] L2 (aI 0 :: St) S := ev_go i314_1538 rfl
theorem i314_1539 : insAt 314 1539 = some (.laload, 1, (0, 0, 0, 0), 0) := rfl
theorem s314_1539 {c : Nat → List AV → SS → Option Out} {l0 l1 l2 l3 l4 l5 l6 l7 : Option AV} {i : Int32} {o : OId} {L2 : List (Nat × AV)} {St : List AV} {S : SS} : ev c 314 1539 [l0, l1, l2, l3, l4, l5, l6, l7] L2 (aI i :: aR o :: St) S = kJ o i (ev c 314 1540 [l0, l1, l2, l3, l4, l5, l6, l7] L2 (aL (toL (S.2.1 o i.toNatClampNeg)) :: St) S) := ev_laload i314_1539
theorem i314_1540 : insAt 314 1540 = some (.iload 7, 2, (0, 0, 0, 0), 0) := rfl
theorem s314_1540 {c : Nat → List AV → SS → Option Out} {l0 l1 l2 l3 l4 l5 l6 : Option AV} {x : Int32} {L2 : List (Nat × AV)} {St : List AV} {S : SS} : ev c 314 1540 [l0, l1, l2, l3, l4, l5, l6, some (aI x)] L2 St S = ev c 314 1542 [l0, l1, l2, l3, l4, l5, l6, some (aI x)] L2 (aI x :: St) S := ev_go i314_1540 rfl
theorem i314_1542 : insAt 314 1542 = some (.i2l, 1, (0, 0, 0, 0), 0) := rfl
theorem s314_1542 {c : Nat → List AV → SS → Option Out} {l0 l1 l2 l3 l4 l5 l6 l7 : Option AV} {x : Int32} {L2 : List (Nat × AV)} {St : List AV} {S : SS} : ev c 314 1542 [l0, l1, l2, l3, l4, l5, l6, l7] L2 (aI x :: St) S = ev c 314 1543 [l0, l1, l2, l3, l4, l5, l6, l7] L2 (aL x.toInt64 :: St) S := ev_go i314_1542 rfl
theorem i314_1543 : insAt 314 1543 = some (.lcmp, 1, (0, 0, 0, 0), 0) := rfl
theorem s314_1543 {c : Nat → List AV → SS → Option Out} {l0 l1 l2 l3 l4 l5 l6 l7 : Option AV} {x y : Int64} {L2 : List (Nat × AV)} {St : List AV} {S : SS} : ev c 314 1543 [l0, l1, l2, l3, l4, l5, l6, l7] L2 (aL y :: aL x :: St) S = ev c 314 1544 [l0, l1, l2, l3, l4, l5, l6, l7] L2 (aI (if x < y then -1 else if x = y then 0 else 1) :: St) S := ev_go i314_1543 rfl
theorem i314_1544 : insAt 314 1544 = some (.ifCond .eq 5, 3, (0, 0, 0, 0), 0) := rfl
theorem s314_1544 {c : Nat → List AV → SS → Option Out} {l0 l1 l2 l3 l4 l5 l6 l7 : Option AV} {x : Int32} {L2 : List (Nat × AV)} {St : List AV} {S : SS} : ev c 314 1544 [l0, l1, l2, l3, l4, l5, l6, l7] L2 (aI x :: St) S = if x = 0 then ev c 314 1549 [l0, l1, l2, l3, l4, l5, l6, l7] L2 St S else ev c 314 1547 [l0, l1, l2, l3, l4, l5, l6, l7] L2 St S := ev_br i314_1544 rfl
theorem i314_1547 : insAt 314 1547 = some (.iconst 0, 1, (0, 0, 0, 0), 0) := rfl
theorem s314_1547 {c : Nat → List AV → SS → Option Out} {l0 l1 l2 l3 l4 l5 l6 l7 : Option AV} {L2 : List (Nat × AV)} {St : List AV} {S : SS} : ev c 314 1547 [l0, l1, l2, l3, l4, l5, l6, l7] L2 St S = ev c 314 1548 [l0, l1, l2, l3, l4, l5, l6, l7] L2 (aI 0 :: St) S := ev_go i314_1547 rfl
theorem i314_1548 : insAt 314 1548 = some (.ireturn, 1, (0, 0, 0, 0), 0) := rfl
theorem s314_1548 {c : Nat → List AV → SS → Option Out} {l0 l1 l2 l3 l4 l5 l6 l7 : Option AV} {x : Int32} {L2 : List (Nat × AV)} {St : List AV} {S : SS} : ev c 314 1548 [l0, l1, l2, l3, l4, l5, l6, l7] L2 [aI x] S = if x = 0 ∨ x = 1 then some (.inl (some (aI x)), S) else none := ev_rt i314_1548 rfl
theorem i314_1549 : insAt 314 1549 = some (.goto 1250, 3, (0, 0, 0, 0), 0) := rfl
theorem s314_1549 {c : Nat → List AV → SS → Option Out} {l0 l1 l2 l3 l4 l5 l6 l7 : Option AV} {L2 : List (Nat × AV)} {St : List AV} {S : SS} : ev c 314 1549 [l0, l1, l2, l3, l4, l5, l6, l7] L2 St S = ev c 314 2799 [l0, l1, l2, l3, l4, l5, l6, l7] L2 St S := ev_go i314_1549 rfl
theorem i314_1552 : insAt 314 1552 = some (.aload_n 1, 1, (0, 0, 0, 0), 0) := rfl
theorem s314_1552 {c : Nat → List AV → SS → Option Out} {l0 l2 l3 l4 l5 l6 l7 : Option AV} {o : OId} {L2 : List (Nat × AV)} {St : List AV} {S : SS} : ev c 314 1552 [l0, some (aR o), l2, l3, l4, l5, l6, l7] L2 St S = ev c 314 1553 [l0, some (aR o), l2, l3, l4, l5, l6, l7] L2 (aR o :: St) S := ev_go i314_1552 rfl
theorem i314_1553 : insAt 314 1553 = some (.aload_n 0, 1, (0, 0, 0, 0), 0) := rfl
theorem s314_1553 {c : Nat → List AV → SS → Option Out} {l1 l2 l3 l4 l5 l6 l7 : Option AV} {o : OId} {L2 : List (Nat × AV)} {St : List AV} {S : SS} : ev c 314 1553 [some (aR o), l1, l2, l3, l4, l5, l6, l7] L2 St S = ev c 314 1554 [some (aR o), l1, l2, l3, l4, l5, l6, l7] L2 (aR o :: St) S := ev_go i314_1553 rfl
theorem i314_1554 : insAt 314 1554 = some (.iload 5, 2, (0, 0, 0, 0), 0) := rfl
theorem s314_1554 {c : Nat → List AV → SS → Option Out} {l0 l1 l2 l3 l4 l6 l7 : Option AV} {x : Int32} {L2 : List (Nat × AV)} {St : List AV} {S : SS} : ev c 314 1554 [l0, l1, l2, l3, l4, some (aI x), l6, l7] L2 St S = ev c 314 1556 [l0, l1, l2, l3, l4, some (aI x), l6, l7] L2 (aI x :: St) S := ev_go i314_1554 rfl
theorem i314_1556 : insAt 314 1556 = some (.iconst 1, 1, (0, 0, 0, 0), 0) := rfl
theorem s314_1556 {c : Nat → List AV → SS → Option Out} {l0 l1 l2 l3 l4 l5 l6 l7 : Option AV} {L2 : List (Nat × AV)} {St : List AV} {S : SS} : ev c 314 1556 [l0, l1, l2, l3, l4, l5, l6, l7] L2 St S = ev c 314 1557 [l0, l1, l2, l3, l4, l5, l6, l7] L2 (aI 1 :: St) S := ev_go i314_1556 rfl
theorem i314_1557 : insAt 314 1557 = some (.iadd, 1, (0, 0, 0, 0), 0) := rfl
theorem s314_1557 {c : Nat → List AV → SS → Option Out} {l0 l1 l2 l3 l4 l5 l6 l7 : Option AV} {x y : Int32} {L2 : List (Nat × AV)} {St : List AV} {S : SS} : ev c 314 1557 [l0, l1, l2, l3, l4, l5, l6, l7] L2 (aI y :: aI x :: St) S = ev c 314 1558 [l0, l1, l2, l3, l4, l5, l6, l7] L2 (aI (x + y) :: St) S := ev_go i314_1557 rfl
theorem i314_1558 : insAt 314 1558 = some (.iaload, 1, (0, 0, 0, 0), 0) := rfl
theorem s314_1558 {c : Nat → List AV → SS → Option Out} {l0 l1 l2 l3 l4 l5 l6 l7 : Option AV} {i : Int32} {o : OId} {L2 : List (Nat × AV)} {St : List AV} {S : SS} : ev c 314 1558 [l0, l1, l2, l3, l4, l5, l6, l7] L2 (aI i :: aR o :: St) S = kI o i (ev c 314 1559 [l0, l1, l2, l3, l4, l5, l6, l7] L2 (aI (agI S o i.toNatClampNeg) :: St) S) := ev_iaload i314_1558
theorem i314_1559 : insAt 314 1559 = some (.aload_n 0, 1, (0, 0, 0, 0), 0) := rfl
theorem s314_1559 {c : Nat → List AV → SS → Option Out} {l1 l2 l3 l4 l5 l6 l7 : Option AV} {o : OId} {L2 : List (Nat × AV)} {St : List AV} {S : SS} : ev c 314 1559 [some (aR o), l1, l2, l3, l4, l5, l6, l7] L2 St S = ev c 314 1560 [some (aR o), l1, l2, l3, l4, l5, l6, l7] L2 (aR o :: St) S := ev_go i314_1559 rfl
theorem i314_1560 : insAt 314 1560 = some (.iload 5, 2, (0, 0, 0, 0), 0) := rfl
theorem s314_1560 {c : Nat → List AV → SS → Option Out} {l0 l1 l2 l3 l4 l6 l7 : Option AV} {x : Int32} {L2 : List (Nat × AV)} {St : List AV} {S : SS} : ev c 314 1560 [l0, l1, l2, l3, l4, some (aI x), l6, l7] L2 St S = ev c 314 1562 [l0, l1, l2, l3, l4, some (aI x), l6, l7] L2 (aI x :: St) S := ev_go i314_1560 rfl
theorem i314_1562 : insAt 314 1562 = some (.iconst 2, 1, (0, 0, 0, 0), 0) := rfl
theorem s314_1562 {c : Nat → List AV → SS → Option Out} {l0 l1 l2 l3 l4 l5 l6 l7 : Option AV} {L2 : List (Nat × AV)} {St : List AV} {S : SS} : ev c 314 1562 [l0, l1, l2, l3, l4, l5, l6, l7] L2 St S = ev c 314 1563 [l0, l1, l2, l3, l4, l5, l6, l7] L2 (aI 2 :: St) S := ev_go i314_1562 rfl
theorem i314_1563 : insAt 314 1563 = some (.iadd, 1, (0, 0, 0, 0), 0) := rfl
theorem s314_1563 {c : Nat → List AV → SS → Option Out} {l0 l1 l2 l3 l4 l5 l6 l7 : Option AV} {x y : Int32} {L2 : List (Nat × AV)} {St : List AV} {S : SS} : ev c 314 1563 [l0, l1, l2, l3, l4, l5, l6, l7] L2 (aI y :: aI x :: St) S = ev c 314 1564 [l0, l1, l2, l3, l4, l5, l6, l7] L2 (aI (x + y) :: St) S := ev_go i314_1563 rfl
theorem i314_1564 : insAt 314 1564 = some (.iaload, 1, (0, 0, 0, 0), 0) := rfl
theorem s314_1564 {c : Nat → List AV → SS → Option Out} {l0 l1 l2 l3 l4 l5 l6 l7 : Option AV} {i : Int32} {o : OId} {L2 : List (Nat × AV)} {St : List AV} {S : SS} : ev c 314 1564 [l0, l1, l2, l3, l4, l5, l6, l7] L2 (aI i :: aR o :: St) S = kI o i (ev c 314 1565 [l0, l1, l2, l3, l4, l5, l6, l7] L2 (aI (agI S o i.toNatClampNeg) :: St) S) := ev_iaload i314_1564
theorem i314_1565 : insAt 314 1565 = some (.aload_n 3, 1, (0, 0, 0, 0), 0) := rfl
theorem s314_1565 {c : Nat → List AV → SS → Option Out} {l0 l1 l2 l4 l5 l6 l7 : Option AV} {o : OId} {L2 : List (Nat × AV)} {St : List AV} {S : SS} : ev c 314 1565 [l0, l1, l2, some (aR o), l4, l5, l6, l7] L2 St S = ev c 314 1566 [l0, l1, l2, some (aR o), l4, l5, l6, l7] L2 (aR o :: St) S := ev_go i314_1565 rfl
theorem i314_1566 : insAt 314 1566 = some (.invokestatic 241, 3, (129, 4, 0, 0), 0) := rfl
theorem s314_1566 {c : Nat → List AV → SS → Option Out} {l0 l1 l2 l3 l4 l5 l6 l7 : Option AV} {a0 : OId} {a1 : Int32} {a2 : Int32} {a3 : OId} {L2 : List (Nat × AV)} {S : SS} : ev c 314 1566 [l0, l1, l2, l3, l4, l5, l6, l7] L2 [aR a3, aI a2, aI a1, aR a0] S = ck (c 129 [aR a0, aI a1, aI a2, aR a3] S) (fun v S' => ev c 314 1569 [l0, l1, l2, l3, l4, l5, l6, l7] L2 (v.toList ++ []) S') := ev_call i314_1566 rfl
theorem i314_1569 : insAt 314 1569 = some (.istore 6, 2, (0, 0, 0, 0), 0) := rfl
theorem s314_1569 {c : Nat → List AV → SS → Option Out} {l0 l1 l2 l3 l4 l5 l6 l7 : Option AV} {x : Int32} {L2 : List (Nat × AV)} {St : List AV} {S : SS} : ev c 314 1569 [l0, l1, l2, l3, l4, l5, l6, l7] L2 (aI x :: St) S = ev c 314 1571 [l0, l1, l2, l3, l4, l5, some (aI x), l7] (kil L2 6) St S := ev_go i314_1569 rfl
theorem i314_1571 : insAt 314 1571 = some (.aload_n 2, 1, (0, 0, 0, 0), 0) := rfl
theorem s314_1571 {c : Nat → List AV → SS → Option Out} {l0 l1 l3 l4 l5 l6 l7 : Option AV} {o : OId} {L2 : List (Nat × AV)} {St : List AV} {S : SS} : ev c 314 1571 [l0, l1, some (aR o), l3, l4, l5, l6, l7] L2 St S = ev c 314 1572 [l0, l1, some (aR o), l3, l4, l5, l6, l7] L2 (aR o :: St) S := ev_go i314_1571 rfl
theorem i314_1572 : insAt 314 1572 = some (.aload_n 0, 1, (0, 0, 0, 0), 0) := rfl
theorem s314_1572 {c : Nat → List AV → SS → Option Out} {l1 l2 l3 l4 l5 l6 l7 : Option AV} {o : OId} {L2 : List (Nat × AV)} {St : List AV} {S : SS} : ev c 314 1572 [some (aR o), l1, l2, l3, l4, l5, l6, l7] L2 St S = ev c 314 1573 [some (aR o), l1, l2, l3, l4, l5, l6, l7] L2 (aR o :: St) S := ev_go i314_1572 rfl
theorem i314_1573 : insAt 314 1573 = some (.iload 5, 2, (0, 0, 0, 0), 0) := rfl
theorem s314_1573 {c : Nat → List AV → SS → Option Out} {l0 l1 l2 l3 l4 l6 l7 : Option AV} {x : Int32} {L2 : List (Nat × AV)} {St : List AV} {S : SS} : ev c 314 1573 [l0, l1, l2, l3, l4, some (aI x), l6, l7] L2 St S = ev c 314 1575 [l0, l1, l2, l3, l4, some (aI x), l6, l7] L2 (aI x :: St) S := ev_go i314_1573 rfl
theorem i314_1575 : insAt 314 1575 = some (.iconst 1, 1, (0, 0, 0, 0), 0) := rfl
theorem s314_1575 {c : Nat → List AV → SS → Option Out} {l0 l1 l2 l3 l4 l5 l6 l7 : Option AV} {L2 : List (Nat × AV)} {St : List AV} {S : SS} : ev c 314 1575 [l0, l1, l2, l3, l4, l5, l6, l7] L2 St S = ev c 314 1576 [l0, l1, l2, l3, l4, l5, l6, l7] L2 (aI 1 :: St) S := ev_go i314_1575 rfl
theorem i314_1576 : insAt 314 1576 = some (.iadd, 1, (0, 0, 0, 0), 0) := rfl
theorem s314_1576 {c : Nat → List AV → SS → Option Out} {l0 l1 l2 l3 l4 l5 l6 l7 : Option AV} {x y : Int32} {L2 : List (Nat × AV)} {St : List AV} {S : SS} : ev c 314 1576 [l0, l1, l2, l3, l4, l5, l6, l7] L2 (aI y :: aI x :: St) S = ev c 314 1577 [l0, l1, l2, l3, l4, l5, l6, l7] L2 (aI (x + y) :: St) S := ev_go i314_1576 rfl
theorem i314_1577 : insAt 314 1577 = some (.iaload, 1, (0, 0, 0, 0), 0) := rfl
theorem s314_1577 {c : Nat → List AV → SS → Option Out} {l0 l1 l2 l3 l4 l5 l6 l7 : Option AV} {i : Int32} {o : OId} {L2 : List (Nat × AV)} {St : List AV} {S : SS} : ev c 314 1577 [l0, l1, l2, l3, l4, l5, l6, l7] L2 (aI i :: aR o :: St) S = kI o i (ev c 314 1578 [l0, l1, l2, l3, l4, l5, l6, l7] L2 (aI (agI S o i.toNatClampNeg) :: St) S) := ev_iaload i314_1577
theorem i314_1578 : insAt 314 1578 = some (.aload_n 0, 1, (0, 0, 0, 0), 0) := rfl
theorem s314_1578 {c : Nat → List AV → SS → Option Out} {l1 l2 l3 l4 l5 l6 l7 : Option AV} {o : OId} {L2 : List (Nat × AV)} {St : List AV} {S : SS} : ev c 314 1578 [some (aR o), l1, l2, l3, l4, l5, l6, l7] L2 St S = ev c 314 1579 [some (aR o), l1, l2, l3, l4, l5, l6, l7] L2 (aR o :: St) S := ev_go i314_1578 rfl
theorem i314_1579 : insAt 314 1579 = some (.iload 5, 2, (0, 0, 0, 0), 0) := rfl
theorem s314_1579 {c : Nat → List AV → SS → Option Out} {l0 l1 l2 l3 l4 l6 l7 : Option AV} {x : Int32} {L2 : List (Nat × AV)} {St : List AV} {S : SS} : ev c 314 1579 [l0, l1, l2, l3, l4, some (aI x), l6, l7] L2 St S = ev c 314 1581 [l0, l1, l2, l3, l4, some (aI x), l6, l7] L2 (aI x :: St) S := ev_go i314_1579 rfl
theorem i314_1581 : insAt 314 1581 = some (.iconst 2, 1, (0, 0, 0, 0), 0) := rfl
theorem s314_1581 {c : Nat → List AV → SS → Option Out} {l0 l1 l2 l3 l4 l5 l6 l7 : Option AV} {L2 : List (Nat × AV)} {St : List AV} {S : SS} : ev c 314 1581 [l0, l1, l2, l3, l4, l5, l6, l7] L2 St S = ev c 314 1582 [l0, l1, l2, l3, l4, l5, l6, l7] L2 (aI 2 :: St) S := ev_go i314_1581 rfl
theorem i314_1582 : insAt 314 1582 = some (.iadd, 1, (0, 0, 0, 0), 0) := rfl
theorem s314_1582 {c : Nat → List AV → SS → Option Out} {l0 l1 l2 l3 l4 l5 l6 l7 : Option AV} {x y : Int32} {L2 : List (Nat × AV)} {St : List AV} {S : SS} : ev c 314 1582 [l0, l1, l2, l3, l4, l5, l6, l7] L2 (aI y :: aI x :: St) S = ev c 314 1583 [l0, l1, l2, l3, l4, l5, l6, l7] L2 (aI (x + y) :: St) S := ev_go i314_1582 rfl
theorem i314_1583 : insAt 314 1583 = some (.iaload, 1, (0, 0, 0, 0), 0) := rfl
theorem s314_1583 {c : Nat → List AV → SS → Option Out} {l0 l1 l2 l3 l4 l5 l6 l7 : Option AV} {i : Int32} {o : OId} {L2 : List (Nat × AV)} {St : List AV} {S : SS} : ev c 314 1583 [l0, l1, l2, l3, l4, l5, l6, l7] L2 (aI i :: aR o :: St) S = kI o i (ev c 314 1584 [l0, l1, l2, l3, l4, l5, l6, l7] L2 (aI (agI S o i.toNatClampNeg) :: St) S) := ev_iaload i314_1583
theorem i314_1584 : insAt 314 1584 = some (.invokevirtual 243, 3, (282, 2, 2, 12), 0) := rfl
theorem s314_1584 {c : Nat → List AV → SS → Option Out} {l0 l1 l2 l3 l4 l5 l6 l7 : Option AV} {a0 : Int32} {a1 : Int32} {j t : Nat} {L2 : List (Nat × AV)} {S : SS} : ev c 314 1584 [l0, l1, l2, l3, l4, l5, l6, l7] L2 [aI a1, aI a0, aR (12, j, t)] S = ck (c 282 [aR (12, j, t), aI a0, aI a1] S) (fun v S' => ev c 314 1587 [l0, l1, l2, l3, l4, l5, l6, l7] L2 (v.toList ++ []) S') := ev_call i314_1584 rfl
theorem i314_1587 : insAt 314 1587 = some (.istore 7, 2, (0, 0, 0, 0), 0) := rfl
theorem s314_1587 {c : Nat → List AV → SS → Option Out} {l0 l1 l2 l3 l4 l5 l6 l7 : Option AV} {x : Int32} {L2 : List (Nat × AV)} {St : List AV} {S : SS} : ev c 314 1587 [l0, l1, l2, l3, l4, l5, l6, l7] L2 (aI x :: St) S = ev c 314 1589 [l0, l1, l2, l3, l4, l5, l6, some (aI x)] (kil L2 7) St S := ev_go i314_1587 rfl
theorem i314_1589 : insAt 314 1589 = some (.aload_n 2, 1, (0, 0, 0, 0), 0) := rfl
theorem s314_1589 {c : Nat → List AV → SS → Option Out} {l0 l1 l3 l4 l5 l6 l7 : Option AV} {o : OId} {L2 : List (Nat × AV)} {St : List AV} {S : SS} : ev c 314 1589 [l0, l1, some (aR o), l3, l4, l5, l6, l7] L2 St S = ev c 314 1590 [l0, l1, some (aR o), l3, l4, l5, l6, l7] L2 (aR o :: St) S := ev_go i314_1589 rfl
theorem i314_1590 : insAt 314 1590 = some (.invokevirtual 149, 3, (218, 0, 2, 12), 0) := rfl
theorem s314_1590 {c : Nat → List AV → SS → Option Out} {l0 l1 l2 l3 l4 l5 l6 l7 : Option AV} {j t : Nat} {L2 : List (Nat × AV)} {S : SS} : ev c 314 1590 [l0, l1, l2, l3, l4, l5, l6, l7] L2 [aR (12, j, t)] S = ck (c 218 [aR (12, j, t)] S) (fun v S' => ev c 314 1593 [l0, l1, l2, l3, l4, l5, l6, l7] L2 (v.toList ++ []) S') := ev_call i314_1590 rfl
theorem i314_1593 : insAt 314 1593 = some (.iload 6, 2, (0, 0, 0, 0), 0) := rfl
theorem s314_1593 {c : Nat → List AV → SS → Option Out} {l0 l1 l2 l3 l4 l5 l7 : Option AV} {x : Int32} {L2 : List (Nat × AV)} {St : List AV} {S : SS} : ev c 314 1593 [l0, l1, l2, l3, l4, l5, some (aI x), l7] L2 St S = ev c 314 1595 [l0, l1, l2, l3, l4, l5, some (aI x), l7] L2 (aI x :: St) S := ev_go i314_1593 rfl
theorem i314_1595 : insAt 314 1595 = some (.if_icmp .eq 5, 3, (0, 0, 0, 0), 0) := rfl
theorem s314_1595 {c : Nat → List AV → SS → Option Out} {l0 l1 l2 l3 l4 l5 l6 l7 : Option AV} {x y : Int32} {L2 : List (Nat × AV)} {St : List AV} {S : SS} : ev c 314 1595 [l0, l1, l2, l3, l4, l5, l6, l7] L2 (aI y :: aI x :: St) S = if x = y then ev c 314 1600 [l0, l1, l2, l3, l4, l5, l6, l7] L2 St S else ev c 314 1598 [l0, l1, l2, l3, l4, l5, l6, l7] L2 St S := ev_br i314_1595 rfl
theorem i314_1598 : insAt 314 1598 = some (.iconst 0, 1, (0, 0, 0, 0), 0) := rfl
theorem s314_1598 {c : Nat → List AV → SS → Option Out} {l0 l1 l2 l3 l4 l5 l6 l7 : Option AV} {L2 : List (Nat × AV)} {St : List AV} {S : SS} : ev c 314 1598 [l0, l1, l2, l3, l4, l5, l6, l7] L2 St S = ev c 314 1599 [l0, l1, l2, l3, l4, l5, l6, l7] L2 (aI 0 :: St) S := ev_go i314_1598 rfl
theorem i314_1599 : insAt 314 1599 = some (.ireturn, 1, (0, 0, 0, 0), 0) := rfl
theorem s314_1599 {c : Nat → List AV → SS → Option Out} {l0 l1 l2 l3 l4 l5 l6 l7 : Option AV} {x : Int32} {L2 : List (Nat × AV)} {St : List AV} {S : SS} : ev c 314 1599 [l0, l1, l2, l3, l4, l5, l6, l7] L2 [aI x] S = if x = 0 ∨ x = 1 then some (.inl (some (aI x)), S) else none := ev_rt i314_1599 rfl
theorem i314_1600 : insAt 314 1600 = some (.iload 6, 2, (0, 0, 0, 0), 0) := rfl
theorem s314_1600 {c : Nat → List AV → SS → Option Out} {l0 l1 l2 l3 l4 l5 l7 : Option AV} {x : Int32} {L2 : List (Nat × AV)} {St : List AV} {S : SS} : ev c 314 1600 [l0, l1, l2, l3, l4, l5, some (aI x), l7] L2 St S = ev c 314 1602 [l0, l1, l2, l3, l4, l5, some (aI x), l7] L2 (aI x :: St) S := ev_go i314_1600 rfl
theorem i314_1602 : insAt 314 1602 = some (.ifCond .ne 15, 3, (0, 0, 0, 0), 0) := rfl
theorem s314_1602 {c : Nat → List AV → SS → Option Out} {l0 l1 l2 l3 l4 l5 l6 l7 : Option AV} {x : Int32} {L2 : List (Nat × AV)} {St : List AV} {S : SS} : ev c 314 1602 [l0, l1, l2, l3, l4, l5, l6, l7] L2 (aI x :: St) S = if x = 0 then ev c 314 1605 [l0, l1, l2, l3, l4, l5, l6, l7] L2 St S else ev c 314 1617 [l0, l1, l2, l3, l4, l5, l6, l7] L2 St S := (ev_br i314_1602 rfl).trans (ite_not _ _ _)
theorem i314_1605 : insAt 314 1605 = some (.aload_n 3, 1, (0, 0, 0, 0), 0) := rfl
theorem s314_1605 {c : Nat → List AV → SS → Option Out} {l0 l1 l2 l4 l5 l6 l7 : Option AV} {o : OId} {L2 : List (Nat × AV)} {St : List AV} {S : SS} : ev c 314 1605 [l0, l1, l2, some (aR o), l4, l5, l6, l7] L2 St S = ev c 314 1606 [l0, l1, l2, some (aR o), l4, l5, l6, l7] L2 (aR o :: St) S := ev_go i314_1605 rfl
theorem i314_1606 : insAt 314 1606 = some (.iconst 0, 1, (0, 0, 0, 0), 0) := rfl
theorem s314_1606 {c : Nat → List AV → SS → Option Out} {l0 l1 l2 l3 l4 l5 l6 l7 : Option AV} {L2 : List (Nat × AV)} {St : List AV} {S : SS} : ev c 314 1606 [l0, l1, l2, l3, l4, l5, l6, l7] L2 St S = ev c 314 1607 [l0, l1, l2, l3, l4, l5, l6, l7] L2 (aI 0 :: St) S := ev_go i314_1606 rfl
theorem i314_1607 : insAt 314 1607 = some (.laload, 1, (0, 0, 0, 0), 0) := rfl
theorem s314_1607 {c : Nat → List AV → SS → Option Out} {l0 l1 l2 l3 l4 l5 l6 l7 : Option AV} {i : Int32} {o : OId} {L2 : List (Nat × AV)} {St : List AV} {S : SS} : ev c 314 1607 [l0, l1, l2, l3, l4, l5, l6, l7] L2 (aI i :: aR o :: St) S = kJ o i (ev c 314 1608 [l0, l1, l2, l3, l4, l5, l6, l7] L2 (aL (toL (S.2.1 o i.toNatClampNeg)) :: St) S) := ev_laload i314_1607
theorem i314_1608 : insAt 314 1608 = some (.iload 7, 2, (0, 0, 0, 0), 0) := rfl
theorem s314_1608 {c : Nat → List AV → SS → Option Out} {l0 l1 l2 l3 l4 l5 l6 : Option AV} {x : Int32} {L2 : List (Nat × AV)} {St : List AV} {S : SS} : ev c 314 1608 [l0, l1, l2, l3, l4, l5, l6, some (aI x)] L2 St S = ev c 314 1610 [l0, l1, l2, l3, l4, l5, l6, some (aI x)] L2 (aI x :: St) S := ev_go i314_1608 rfl
theorem i314_1610 : insAt 314 1610 = some (.i2l, 1, (0, 0, 0, 0), 0) := rfl
theorem s314_1610 {c : Nat → List AV → SS → Option Out} {l0 l1 l2 l3 l4 l5 l6 l7 : Option AV} {x : Int32} {L2 : List (Nat × AV)} {St : List AV} {S : SS} : ev c 314 1610 [l0, l1, l2, l3, l4, l5, l6, l7] L2 (aI x :: St) S = ev c 314 1611 [l0, l1, l2, l3, l4, l5, l6, l7] L2 (aL x.toInt64 :: St) S := ev_go i314_1610 rfl
theorem i314_1611 : insAt 314 1611 = some (.lcmp, 1, (0, 0, 0, 0), 0) := rfl
theorem s314_1611 {c : Nat → List AV → SS → Option Out} {l0 l1 l2 l3 l4 l5 l6 l7 : Option AV} {x y : Int64} {L2 : List (Nat × AV)} {St : List AV} {S : SS} : ev c 314 1611 [l0, l1, l2, l3, l4, l5, l6, l7] L2 (aL y :: aL x :: St) S = ev c 314 1612 [l0, l1, l2, l3, l4, l5, l6, l7] L2 (aI (if x < y then -1 else if x = y then 0 else 1) :: St) S := ev_go i314_1611 rfl
theorem i314_1612 : insAt 314 1612 = some (.ifCond .eq 5, 3, (0, 0, 0, 0), 0) := rfl
theorem s314_1612 {c : Nat → List AV → SS → Option Out} {l0 l1 l2 l3 l4 l5 l6 l7 : Option AV} {x : Int32} {L2 : List (Nat × AV)} {St : List AV} {S : SS} : ev c 314 1612 [l0, l1, l2, l3, l4, l5, l6, l7] L2 (aI x :: St) S = if x = 0 then ev c 314 1617 [l0, l1, l2, l3, l4, l5, l6, l7] L2 St S else ev c 314 1615 [l0, l1, l2, l3, l4, l5, l6, l7] L2 St S := ev_br i314_1612 rfl
theorem i314_1615 : insAt 314 1615 = some (.iconst 0, 1, (0, 0, 0, 0), 0) := rfl
theorem s314_1615 {c : Nat → List AV → SS → Option Out} {l0 l1 l2 l3 l4 l5 l6 l7 : Option AV} {L2 : List (Nat × AV)} {St : List AV} {S : SS} : ev c 314 1615 [l0, l1, l2, l3, l4, l5, l6, l7] L2 St S = ev c 314 1616 [l0, l1, l2, l3, l4, l5, l6, l7] L2 (aI 0 :: St) S := ev_go i314_1615 rfl
theorem i314_1616 : insAt 314 1616 = some (.ireturn, 1, (0, 0, 0, 0), 0) := rfl
theorem s314_1616 {c : Nat → List AV → SS → Option Out} {l0 l1 l2 l3 l4 l5 l6 l7 : Option AV} {x : Int32} {L2 : List (Nat × AV)} {St : List AV} {S : SS} : ev c 314 1616 [l0, l1, l2, l3, l4, l5, l6, l7] L2 [aI x] S = if x = 0 ∨ x = 1 then some (.inl (some (aI x)), S) else none := ev_rt i314_1616 rfl
theorem i314_1617 : insAt 314 1617 = some (.goto 1182, 3, (0, 0, 0, 0), 0) := rfl
theorem s314_1617 {c : Nat → List AV → SS → Option Out} {l0 l1 l2 l3 l4 l5 l6 l7 : Option AV} {L2 : List (Nat × AV)} {St : List AV} {S : SS} : ev c 314 1617 [l0, l1, l2, l3, l4, l5, l6, l7] L2 St S = ev c 314 2799 [l0, l1, l2, l3, l4, l5, l6, l7] L2 St S := ev_go i314_1617 rfl
theorem i314_1620 : insAt 314 1620 = some (.aload_n 1, 1, (0, 0, 0, 0), 0) := rfl
theorem s314_1620 {c : Nat → List AV → SS → Option Out} {l0 l2 l3 l4 l5 l6 l7 : Option AV} {o : OId} {L2 : List (Nat × AV)} {St : List AV} {S : SS} : ev c 314 1620 [l0, some (aR o), l2, l3, l4, l5, l6, l7] L2 St S = ev c 314 1621 [l0, some (aR o), l2, l3, l4, l5, l6, l7] L2 (aR o :: St) S := ev_go i314_1620 rfl
theorem i314_1621 : insAt 314 1621 = some (.aload_n 0, 1, (0, 0, 0, 0), 0) := rfl
theorem s314_1621 {c : Nat → List AV → SS → Option Out} {l1 l2 l3 l4 l5 l6 l7 : Option AV} {o : OId} {L2 : List (Nat × AV)} {St : List AV} {S : SS} : ev c 314 1621 [some (aR o), l1, l2, l3, l4, l5, l6, l7] L2 St S = ev c 314 1622 [some (aR o), l1, l2, l3, l4, l5, l6, l7] L2 (aR o :: St) S := ev_go i314_1621 rfl
theorem i314_1622 : insAt 314 1622 = some (.iload 5, 2, (0, 0, 0, 0), 0) := rfl
theorem s314_1622 {c : Nat → List AV → SS → Option Out} {l0 l1 l2 l3 l4 l6 l7 : Option AV} {x : Int32} {L2 : List (Nat × AV)} {St : List AV} {S : SS} : ev c 314 1622 [l0, l1, l2, l3, l4, some (aI x), l6, l7] L2 St S = ev c 314 1624 [l0, l1, l2, l3, l4, some (aI x), l6, l7] L2 (aI x :: St) S := ev_go i314_1622 rfl
theorem i314_1624 : insAt 314 1624 = some (.iconst 1, 1, (0, 0, 0, 0), 0) := rfl
theorem s314_1624 {c : Nat → List AV → SS → Option Out} {l0 l1 l2 l3 l4 l5 l6 l7 : Option AV} {L2 : List (Nat × AV)} {St : List AV} {S : SS} : ev c 314 1624 [l0, l1, l2, l3, l4, l5, l6, l7] L2 St S = ev c 314 1625 [l0, l1, l2, l3, l4, l5, l6, l7] L2 (aI 1 :: St) S := ev_go i314_1624 rfl
theorem i314_1625 : insAt 314 1625 = some (.iadd, 1, (0, 0, 0, 0), 0) := rfl
theorem s314_1625 {c : Nat → List AV → SS → Option Out} {l0 l1 l2 l3 l4 l5 l6 l7 : Option AV} {x y : Int32} {L2 : List (Nat × AV)} {St : List AV} {S : SS} : ev c 314 1625 [l0, l1, l2, l3, l4, l5, l6, l7] L2 (aI y :: aI x :: St) S = ev c 314 1626 [l0, l1, l2, l3, l4, l5, l6, l7] L2 (aI (x + y) :: St) S := ev_go i314_1625 rfl
theorem i314_1626 : insAt 314 1626 = some (.iaload, 1, (0, 0, 0, 0), 0) := rfl
theorem s314_1626 {c : Nat → List AV → SS → Option Out} {l0 l1 l2 l3 l4 l5 l6 l7 : Option AV} {i : Int32} {o : OId} {L2 : List (Nat × AV)} {St : List AV} {S : SS} : ev c 314 1626 [l0, l1, l2, l3, l4, l5, l6, l7] L2 (aI i :: aR o :: St) S = kI o i (ev c 314 1627 [l0, l1, l2, l3, l4, l5, l6, l7] L2 (aI (agI S o i.toNatClampNeg) :: St) S) := ev_iaload i314_1626
theorem i314_1627 : insAt 314 1627 = some (.aload_n 0, 1, (0, 0, 0, 0), 0) := rfl
theorem s314_1627 {c : Nat → List AV → SS → Option Out} {l1 l2 l3 l4 l5 l6 l7 : Option AV} {o : OId} {L2 : List (Nat × AV)} {St : List AV} {S : SS} : ev c 314 1627 [some (aR o), l1, l2, l3, l4, l5, l6, l7] L2 St S = ev c 314 1628 [some (aR o), l1, l2, l3, l4, l5, l6, l7] L2 (aR o :: St) S := ev_go i314_1627 rfl
theorem i314_1628 : insAt 314 1628 = some (.iload 5, 2, (0, 0, 0, 0), 0) := rfl
theorem s314_1628 {c : Nat → List AV → SS → Option Out} {l0 l1 l2 l3 l4 l6 l7 : Option AV} {x : Int32} {L2 : List (Nat × AV)} {St : List AV} {S : SS} : ev c 314 1628 [l0, l1, l2, l3, l4, some (aI x), l6, l7] L2 St S = ev c 314 1630 [l0, l1, l2, l3, l4, some (aI x), l6, l7] L2 (aI x :: St) S := ev_go i314_1628 rfl
theorem i314_1630 : insAt 314 1630 = some (.iconst 2, 1, (0, 0, 0, 0), 0) := rfl
theorem s314_1630 {c : Nat → List AV → SS → Option Out} {l0 l1 l2 l3 l4 l5 l6 l7 : Option AV} {L2 : List (Nat × AV)} {St : List AV} {S : SS} : ev c 314 1630 [l0, l1, l2, l3, l4, l5, l6, l7] L2 St S = ev c 314 1631 [l0, l1, l2, l3, l4, l5, l6, l7] L2 (aI 2 :: St) S := ev_go i314_1630 rfl
theorem i314_1631 : insAt 314 1631 = some (.iadd, 1, (0, 0, 0, 0), 0) := rfl
theorem s314_1631 {c : Nat → List AV → SS → Option Out} {l0 l1 l2 l3 l4 l5 l6 l7 : Option AV} {x y : Int32} {L2 : List (Nat × AV)} {St : List AV} {S : SS} : ev c 314 1631 [l0, l1, l2, l3, l4, l5, l6, l7] L2 (aI y :: aI x :: St) S = ev c 314 1632 [l0, l1, l2, l3, l4, l5, l6, l7] L2 (aI (x + y) :: St) S := ev_go i314_1631 rfl
theorem i314_1632 : insAt 314 1632 = some (.iaload, 1, (0, 0, 0, 0), 0) := rfl
theorem s314_1632 {c : Nat → List AV → SS → Option Out} {l0 l1 l2 l3 l4 l5 l6 l7 : Option AV} {i : Int32} {o : OId} {L2 : List (Nat × AV)} {St : List AV} {S : SS} : ev c 314 1632 [l0, l1, l2, l3, l4, l5, l6, l7] L2 (aI i :: aR o :: St) S = kI o i (ev c 314 1633 [l0, l1, l2, l3, l4, l5, l6, l7] L2 (aI (agI S o i.toNatClampNeg) :: St) S) := ev_iaload i314_1632
theorem i314_1633 : insAt 314 1633 = some (.aload_n 0, 1, (0, 0, 0, 0), 0) := rfl
theorem s314_1633 {c : Nat → List AV → SS → Option Out} {l1 l2 l3 l4 l5 l6 l7 : Option AV} {o : OId} {L2 : List (Nat × AV)} {St : List AV} {S : SS} : ev c 314 1633 [some (aR o), l1, l2, l3, l4, l5, l6, l7] L2 St S = ev c 314 1634 [some (aR o), l1, l2, l3, l4, l5, l6, l7] L2 (aR o :: St) S := ev_go i314_1633 rfl
theorem i314_1634 : insAt 314 1634 = some (.iload 5, 2, (0, 0, 0, 0), 0) := rfl
theorem s314_1634 {c : Nat → List AV → SS → Option Out} {l0 l1 l2 l3 l4 l6 l7 : Option AV} {x : Int32} {L2 : List (Nat × AV)} {St : List AV} {S : SS} : ev c 314 1634 [l0, l1, l2, l3, l4, some (aI x), l6, l7] L2 St S = ev c 314 1636 [l0, l1, l2, l3, l4, some (aI x), l6, l7] L2 (aI x :: St) S := ev_go i314_1634 rfl
theorem i314_1636 : insAt 314 1636 = some (.iconst 3, 1, (0, 0, 0, 0), 0) := rfl
theorem s314_1636 {c : Nat → List AV → SS → Option Out} {l0 l1 l2 l3 l4 l5 l6 l7 : Option AV} {L2 : List (Nat × AV)} {St : List AV} {S : SS} : ev c 314 1636 [l0, l1, l2, l3, l4, l5, l6, l7] L2 St S = ev c 314 1637 [l0, l1, l2, l3, l4, l5, l6, l7] L2 (aI 3 :: St) S := ev_go i314_1636 rfl
theorem i314_1637 : insAt 314 1637 = some (.iadd, 1, (0, 0, 0, 0), 0) := rfl
theorem s314_1637 {c : Nat → List AV → SS → Option Out} {l0 l1 l2 l3 l4 l5 l6 l7 : Option AV} {x y : Int32} {L2 : List (Nat × AV)} {St : List AV} {S : SS} : ev c 314 1637 [l0, l1, l2, l3, l4, l5, l6, l7] L2 (aI y :: aI x :: St) S = ev c 314 1638 [l0, l1, l2, l3, l4, l5, l6, l7] L2 (aI (x + y) :: St) S := ev_go i314_1637 rfl
theorem i314_1638 : insAt 314 1638 = some (.iaload, 1, (0, 0, 0, 0), 0) := rfl
theorem s314_1638 {c : Nat → List AV → SS → Option Out} {l0 l1 l2 l3 l4 l5 l6 l7 : Option AV} {i : Int32} {o : OId} {L2 : List (Nat × AV)} {St : List AV} {S : SS} : ev c 314 1638 [l0, l1, l2, l3, l4, l5, l6, l7] L2 (aI i :: aR o :: St) S = kI o i (ev c 314 1639 [l0, l1, l2, l3, l4, l5, l6, l7] L2 (aI (agI S o i.toNatClampNeg) :: St) S) := ev_iaload i314_1638
theorem i314_1639 : insAt 314 1639 = some (.aload_n 3, 1, (0, 0, 0, 0), 0) := rfl
theorem s314_1639 {c : Nat → List AV → SS → Option Out} {l0 l1 l2 l4 l5 l6 l7 : Option AV} {o : OId} {L2 : List (Nat × AV)} {St : List AV} {S : SS} : ev c 314 1639 [l0, l1, l2, some (aR o), l4, l5, l6, l7] L2 St S = ev c 314 1640 [l0, l1, l2, some (aR o), l4, l5, l6, l7] L2 (aR o :: St) S := ev_go i314_1639 rfl
theorem i314_1640 : insAt 314 1640 = some (.invokestatic 244, 3, (131, 5, 0, 0), 0) := rfl
theorem s314_1640 {c : Nat → List AV → SS → Option Out} {l0 l1 l2 l3 l4 l5 l6 l7 : Option AV} {a0 : OId} {a1 : Int32} {a2 : Int32} {a3 : Int32} {a4 : OId} {L2 : List (Nat × AV)} {S : SS} : ev c 314 1640 [l0, l1, l2, l3, l4, l5, l6, l7] L2 [aR a4, aI a3, aI a2, aI a1, aR a0] S = ck (c 131 [aR a0, aI a1, aI a2, aI a3, aR a4] S) (fun v S' => ev c 314 1643 [l0, l1, l2, l3, l4, l5, l6, l7] L2 (v.toList ++ []) S') := ev_call i314_1640 rfl
theorem i314_1643 : insAt 314 1643 = some (.istore 6, 2, (0, 0, 0, 0), 0) := rfl
theorem s314_1643 {c : Nat → List AV → SS → Option Out} {l0 l1 l2 l3 l4 l5 l6 l7 : Option AV} {x : Int32} {L2 : List (Nat × AV)} {St : List AV} {S : SS} : ev c 314 1643 [l0, l1, l2, l3, l4, l5, l6, l7] L2 (aI x :: St) S = ev c 314 1645 [l0, l1, l2, l3, l4, l5, some (aI x), l7] (kil L2 6) St S := ev_go i314_1643 rfl
theorem i314_1645 : insAt 314 1645 = some (.aload_n 2, 1, (0, 0, 0, 0), 0) := rfl
theorem s314_1645 {c : Nat → List AV → SS → Option Out} {l0 l1 l3 l4 l5 l6 l7 : Option AV} {o : OId} {L2 : List (Nat × AV)} {St : List AV} {S : SS} : ev c 314 1645 [l0, l1, some (aR o), l3, l4, l5, l6, l7] L2 St S = ev c 314 1646 [l0, l1, some (aR o), l3, l4, l5, l6, l7] L2 (aR o :: St) S := ev_go i314_1645 rfl
theorem i314_1646 : insAt 314 1646 = some (.aload_n 0, 1, (0, 0, 0, 0), 0) := rfl
theorem s314_1646 {c : Nat → List AV → SS → Option Out} {l1 l2 l3 l4 l5 l6 l7 : Option AV} {o : OId} {L2 : List (Nat × AV)} {St : List AV} {S : SS} : ev c 314 1646 [some (aR o), l1, l2, l3, l4, l5, l6, l7] L2 St S = ev c 314 1647 [some (aR o), l1, l2, l3, l4, l5, l6, l7] L2 (aR o :: St) S := ev_go i314_1646 rfl
theorem i314_1647 : insAt 314 1647 = some (.iload 5, 2, (0, 0, 0, 0), 0) := rfl
theorem s314_1647 {c : Nat → List AV → SS → Option Out} {l0 l1 l2 l3 l4 l6 l7 : Option AV} {x : Int32} {L2 : List (Nat × AV)} {St : List AV} {S : SS} : ev c 314 1647 [l0, l1, l2, l3, l4, some (aI x), l6, l7] L2 St S = ev c 314 1649 [l0, l1, l2, l3, l4, some (aI x), l6, l7] L2 (aI x :: St) S := ev_go i314_1647 rfl
theorem i314_1649 : insAt 314 1649 = some (.iconst 1, 1, (0, 0, 0, 0), 0) := rfl
theorem s314_1649 {c : Nat → List AV → SS → Option Out} {l0 l1 l2 l3 l4 l5 l6 l7 : Option AV} {L2 : List (Nat × AV)} {St : List AV} {S : SS} : ev c 314 1649 [l0, l1, l2, l3, l4, l5, l6, l7] L2 St S = ev c 314 1650 [l0, l1, l2, l3, l4, l5, l6, l7] L2 (aI 1 :: St) S := ev_go i314_1649 rfl
theorem i314_1650 : insAt 314 1650 = some (.iadd, 1, (0, 0, 0, 0), 0) := rfl
theorem s314_1650 {c : Nat → List AV → SS → Option Out} {l0 l1 l2 l3 l4 l5 l6 l7 : Option AV} {x y : Int32} {L2 : List (Nat × AV)} {St : List AV} {S : SS} : ev c 314 1650 [l0, l1, l2, l3, l4, l5, l6, l7] L2 (aI y :: aI x :: St) S = ev c 314 1651 [l0, l1, l2, l3, l4, l5, l6, l7] L2 (aI (x + y) :: St) S := ev_go i314_1650 rfl
theorem i314_1651 : insAt 314 1651 = some (.iaload, 1, (0, 0, 0, 0), 0) := rfl
theorem s314_1651 {c : Nat → List AV → SS → Option Out} {l0 l1 l2 l3 l4 l5 l6 l7 : Option AV} {i : Int32} {o : OId} {L2 : List (Nat × AV)} {St : List AV} {S : SS} : ev c 314 1651 [l0, l1, l2, l3, l4, l5, l6, l7] L2 (aI i :: aR o :: St) S = kI o i (ev c 314 1652 [l0, l1, l2, l3, l4, l5, l6, l7] L2 (aI (agI S o i.toNatClampNeg) :: St) S) := ev_iaload i314_1651
theorem i314_1652 : insAt 314 1652 = some (.aload_n 0, 1, (0, 0, 0, 0), 0) := rfl
theorem s314_1652 {c : Nat → List AV → SS → Option Out} {l1 l2 l3 l4 l5 l6 l7 : Option AV} {o : OId} {L2 : List (Nat × AV)} {St : List AV} {S : SS} : ev c 314 1652 [some (aR o), l1, l2, l3, l4, l5, l6, l7] L2 St S = ev c 314 1653 [some (aR o), l1, l2, l3, l4, l5, l6, l7] L2 (aR o :: St) S := ev_go i314_1652 rfl
theorem i314_1653 : insAt 314 1653 = some (.iload 5, 2, (0, 0, 0, 0), 0) := rfl
theorem s314_1653 {c : Nat → List AV → SS → Option Out} {l0 l1 l2 l3 l4 l6 l7 : Option AV} {x : Int32} {L2 : List (Nat × AV)} {St : List AV} {S : SS} : ev c 314 1653 [l0, l1, l2, l3, l4, some (aI x), l6, l7] L2 St S = ev c 314 1655 [l0, l1, l2, l3, l4, some (aI x), l6, l7] L2 (aI x :: St) S := ev_go i314_1653 rfl
theorem i314_1655 : insAt 314 1655 = some (.iconst 2, 1, (0, 0, 0, 0), 0) := rfl
theorem s314_1655 {c : Nat → List AV → SS → Option Out} {l0 l1 l2 l3 l4 l5 l6 l7 : Option AV} {L2 : List (Nat × AV)} {St : List AV} {S : SS} : ev c 314 1655 [l0, l1, l2, l3, l4, l5, l6, l7] L2 St S = ev c 314 1656 [l0, l1, l2, l3, l4, l5, l6, l7] L2 (aI 2 :: St) S := ev_go i314_1655 rfl
theorem i314_1656 : insAt 314 1656 = some (.iadd, 1, (0, 0, 0, 0), 0) := rfl
theorem s314_1656 {c : Nat → List AV → SS → Option Out} {l0 l1 l2 l3 l4 l5 l6 l7 : Option AV} {x y : Int32} {L2 : List (Nat × AV)} {St : List AV} {S : SS} : ev c 314 1656 [l0, l1, l2, l3, l4, l5, l6, l7] L2 (aI y :: aI x :: St) S = ev c 314 1657 [l0, l1, l2, l3, l4, l5, l6, l7] L2 (aI (x + y) :: St) S := ev_go i314_1656 rfl
theorem i314_1657 : insAt 314 1657 = some (.iaload, 1, (0, 0, 0, 0), 0) := rfl
theorem s314_1657 {c : Nat → List AV → SS → Option Out} {l0 l1 l2 l3 l4 l5 l6 l7 : Option AV} {i : Int32} {o : OId} {L2 : List (Nat × AV)} {St : List AV} {S : SS} : ev c 314 1657 [l0, l1, l2, l3, l4, l5, l6, l7] L2 (aI i :: aR o :: St) S = kI o i (ev c 314 1658 [l0, l1, l2, l3, l4, l5, l6, l7] L2 (aI (agI S o i.toNatClampNeg) :: St) S) := ev_iaload i314_1657
theorem i314_1658 : insAt 314 1658 = some (.aload_n 0, 1, (0, 0, 0, 0), 0) := rfl
theorem s314_1658 {c : Nat → List AV → SS → Option Out} {l1 l2 l3 l4 l5 l6 l7 : Option AV} {o : OId} {L2 : List (Nat × AV)} {St : List AV} {S : SS} : ev c 314 1658 [some (aR o), l1, l2, l3, l4, l5, l6, l7] L2 St S = ev c 314 1659 [some (aR o), l1, l2, l3, l4, l5, l6, l7] L2 (aR o :: St) S := ev_go i314_1658 rfl
theorem i314_1659 : insAt 314 1659 = some (.iload 5, 2, (0, 0, 0, 0), 0) := rfl
theorem s314_1659 {c : Nat → List AV → SS → Option Out} {l0 l1 l2 l3 l4 l6 l7 : Option AV} {x : Int32} {L2 : List (Nat × AV)} {St : List AV} {S : SS} : ev c 314 1659 [l0, l1, l2, l3, l4, some (aI x), l6, l7] L2 St S = ev c 314 1661 [l0, l1, l2, l3, l4, some (aI x), l6, l7] L2 (aI x :: St) S := ev_go i314_1659 rfl
theorem i314_1661 : insAt 314 1661 = some (.iconst 3, 1, (0, 0, 0, 0), 0) := rfl
theorem s314_1661 {c : Nat → List AV → SS → Option Out} {l0 l1 l2 l3 l4 l5 l6 l7 : Option AV} {L2 : List (Nat × AV)} {St : List AV} {S : SS} : ev c 314 1661 [l0, l1, l2, l3, l4, l5, l6, l7] L2 St S = ev c 314 1662 [l0, l1, l2, l3, l4, l5, l6, l7] L2 (aI 3 :: St) S := ev_go i314_1661 rfl
theorem i314_1662 : insAt 314 1662 = some (.iadd, 1, (0, 0, 0, 0), 0) := rfl
theorem s314_1662 {c : Nat → List AV → SS → Option Out} {l0 l1 l2 l3 l4 l5 l6 l7 : Option AV} {x y : Int32} {L2 : List (Nat × AV)} {St : List AV} {S : SS} : ev c 314 1662 [l0, l1, l2, l3, l4, l5, l6, l7] L2 (aI y :: aI x :: St) S = ev c 314 1663 [l0, l1, l2, l3, l4, l5, l6, l7] L2 (aI (x + y) :: St) S := ev_go i314_1662 rfl
theorem i314_1663 : insAt 314 1663 = some (.iaload, 1, (0, 0, 0, 0), 0) := rfl
theorem s314_1663 {c : Nat → List AV → SS → Option Out} {l0 l1 l2 l3 l4 l5 l6 l7 : Option AV} {i : Int32} {o : OId} {L2 : List (Nat × AV)} {St : List AV} {S : SS} : ev c 314 1663 [l0, l1, l2, l3, l4, l5, l6, l7] L2 (aI i :: aR o :: St) S = kI o i (ev c 314 1664 [l0, l1, l2, l3, l4, l5, l6, l7] L2 (aI (agI S o i.toNatClampNeg) :: St) S) := ev_iaload i314_1663
theorem i314_1664 : insAt 314 1664 = some (.invokevirtual 246, 3, (283, 3, 2, 12), 0) := rfl
theorem s314_1664 {c : Nat → List AV → SS → Option Out} {l0 l1 l2 l3 l4 l5 l6 l7 : Option AV} {a0 : Int32} {a1 : Int32} {a2 : Int32} {j t : Nat} {L2 : List (Nat × AV)} {S : SS} : ev c 314 1664 [l0, l1, l2, l3, l4, l5, l6, l7] L2 [aI a2, aI a1, aI a0, aR (12, j, t)] S = ck (c 283 [aR (12, j, t), aI a0, aI a1, aI a2] S) (fun v S' => ev c 314 1667 [l0, l1, l2, l3, l4, l5, l6, l7] L2 (v.toList ++ []) S') := ev_call i314_1664 rfl
theorem i314_1667 : insAt 314 1667 = some (.istore 7, 2, (0, 0, 0, 0), 0) := rfl
theorem s314_1667 {c : Nat → List AV → SS → Option Out} {l0 l1 l2 l3 l4 l5 l6 l7 : Option AV} {x : Int32} {L2 : List (Nat × AV)} {St : List AV} {S : SS} : ev c 314 1667 [l0, l1, l2, l3, l4, l5, l6, l7] L2 (aI x :: St) S = ev c 314 1669 [l0, l1, l2, l3, l4, l5, l6, some (aI x)] (kil L2 7) St S := ev_go i314_1667 rfl
theorem i314_1669 : insAt 314 1669 = some (.aload_n 2, 1, (0, 0, 0, 0), 0) := rfl
theorem s314_1669 {c : Nat → List AV → SS → Option Out} {l0 l1 l3 l4 l5 l6 l7 : Option AV} {o : OId} {L2 : List (Nat × AV)} {St : List AV} {S : SS} : ev c 314 1669 [l0, l1, some (aR o), l3, l4, l5, l6, l7] L2 St S = ev c 314 1670 [l0, l1, some (aR o), l3, l4, l5, l6, l7] L2 (aR o :: St) S := ev_go i314_1669 rfl
theorem i314_1670 : insAt 314 1670 = some (.invokevirtual 149, 3, (218, 0, 2, 12), 0) := rfl
theorem s314_1670 {c : Nat → List AV → SS → Option Out} {l0 l1 l2 l3 l4 l5 l6 l7 : Option AV} {j t : Nat} {L2 : List (Nat × AV)} {S : SS} : ev c 314 1670 [l0, l1, l2, l3, l4, l5, l6, l7] L2 [aR (12, j, t)] S = ck (c 218 [aR (12, j, t)] S) (fun v S' => ev c 314 1673 [l0, l1, l2, l3, l4, l5, l6, l7] L2 (v.toList ++ []) S') := ev_call i314_1670 rfl
theorem i314_1673 : insAt 314 1673 = some (.iload 6, 2, (0, 0, 0, 0), 0) := rfl
theorem s314_1673 {c : Nat → List AV → SS → Option Out} {l0 l1 l2 l3 l4 l5 l7 : Option AV} {x : Int32} {L2 : List (Nat × AV)} {St : List AV} {S : SS} : ev c 314 1673 [l0, l1, l2, l3, l4, l5, some (aI x), l7] L2 St S = ev c 314 1675 [l0, l1, l2, l3, l4, l5, some (aI x), l7] L2 (aI x :: St) S := ev_go i314_1673 rfl
theorem i314_1675 : insAt 314 1675 = some (.if_icmp .eq 5, 3, (0, 0, 0, 0), 0) := rfl
theorem s314_1675 {c : Nat → List AV → SS → Option Out} {l0 l1 l2 l3 l4 l5 l6 l7 : Option AV} {x y : Int32} {L2 : List (Nat × AV)} {St : List AV} {S : SS} : ev c 314 1675 [l0, l1, l2, l3, l4, l5, l6, l7] L2 (aI y :: aI x :: St) S = if x = y then ev c 314 1680 [l0, l1, l2, l3, l4, l5, l6, l7] L2 St S else ev c 314 1678 [l0, l1, l2, l3, l4, l5, l6, l7] L2 St S := ev_br i314_1675 rfl
theorem i314_1678 : insAt 314 1678 = some (.iconst 0, 1, (0, 0, 0, 0), 0) := rfl
theorem s314_1678 {c : Nat → List AV → SS → Option Out} {l0 l1 l2 l3 l4 l5 l6 l7 : Option AV} {L2 : List (Nat × AV)} {St : List AV} {S : SS} : ev c 314 1678 [l0, l1, l2, l3, l4, l5, l6, l7] L2 St S = ev c 314 1679 [l0, l1, l2, l3, l4, l5, l6, l7] L2 (aI 0 :: St) S := ev_go i314_1678 rfl
theorem i314_1679 : insAt 314 1679 = some (.ireturn, 1, (0, 0, 0, 0), 0) := rfl
theorem s314_1679 {c : Nat → List AV → SS → Option Out} {l0 l1 l2 l3 l4 l5 l6 l7 : Option AV} {x : Int32} {L2 : List (Nat × AV)} {St : List AV} {S : SS} : ev c 314 1679 [l0, l1, l2, l3, l4, l5, l6, l7] L2 [aI x] S = if x = 0 ∨ x = 1 then some (.inl (some (aI x)), S) else none := ev_rt i314_1679 rfl
theorem i314_1680 : insAt 314 1680 = some (.iload 6, 2, (0, 0, 0, 0), 0) := rfl
theorem s314_1680 {c : Nat → List AV → SS → Option Out} {l0 l1 l2 l3 l4 l5 l7 : Option AV} {x : Int32} {L2 : List (Nat × AV)} {St : List AV} {S : SS} : ev c 314 1680 [l0, l1, l2, l3, l4, l5, some (aI x), l7] L2 St S = ev c 314 1682 [l0, l1, l2, l3, l4, l5, some (aI x), l7] L2 (aI x :: St) S := ev_go i314_1680 rfl
theorem i314_1682 : insAt 314 1682 = some (.ifCond .ne 15, 3, (0, 0, 0, 0), 0) := rfl
theorem s314_1682 {c : Nat → List AV → SS → Option Out} {l0 l1 l2 l3 l4 l5 l6 l7 : Option AV} {x : Int32} {L2 : List (Nat × AV)} {St : List AV} {S : SS} : ev c 314 1682 [l0, l1, l2, l3, l4, l5, l6, l7] L2 (aI x :: St) S = if x = 0 then ev c 314 1685 [l0, l1, l2, l3, l4, l5, l6, l7] L2 St S else ev c 314 1697 [l0, l1, l2, l3, l4, l5, l6, l7] L2 St S := (ev_br i314_1682 rfl).trans (ite_not _ _ _)
theorem i314_1685 : insAt 314 1685 = some (.aload_n 3, 1, (0, 0, 0, 0), 0) := rfl
theorem s314_1685 {c : Nat → List AV → SS → Option Out} {l0 l1 l2 l4 l5 l6 l7 : Option AV} {o : OId} {L2 : List (Nat × AV)} {St : List AV} {S : SS} : ev c 314 1685 [l0, l1, l2, some (aR o), l4, l5, l6, l7] L2 St S = ev c 314 1686 [l0, l1, l2, some (aR o), l4, l5, l6, l7] L2 (aR o :: St) S := ev_go i314_1685 rfl
theorem i314_1686 : insAt 314 1686 = some (.iconst 0, 1, (0, 0, 0, 0), 0) := rfl
theorem s314_1686 {c : Nat → List AV → SS → Option Out} {l0 l1 l2 l3 l4 l5 l6 l7 : Option AV} {L2 : List (Nat × AV)} {St : List AV} {S : SS} : ev c 314 1686 [l0, l1, l2, l3, l4, l5, l6, l7] L2 St S = ev c 314 1687 [l0, l1, l2, l3, l4, l5, l6, l7] L2 (aI 0 :: St) S := ev_go i314_1686 rfl
theorem i314_1687 : insAt 314 1687 = some (.laload, 1, (0, 0, 0, 0), 0) := rfl
theorem s314_1687 {c : Nat → List AV → SS → Option Out} {l0 l1 l2 l3 l4 l5 l6 l7 : Option AV} {i : Int32} {o : OId} {L2 : List (Nat × AV)} {St : List AV} {S : SS} : ev c 314 1687 [l0, l1, l2, l3, l4, l5, l6, l7] L2 (aI i :: aR o :: St) S = kJ o i (ev c 314 1688 [l0, l1, l2, l3, l4, l5, l6, l7] L2 (aL (toL (S.2.1 o i.toNatClampNeg)) :: St) S) := ev_laload i314_1687
theorem i314_1688 : insAt 314 1688 = some (.iload 7, 2, (0, 0, 0, 0), 0) := rfl
theorem s314_1688 {c : Nat → List AV → SS → Option Out} {l0 l1 l2 l3 l4 l5 l6 : Option AV} {x : Int32} {L2 : List (Nat × AV)} {St : List AV} {S : SS} : ev c 314 1688 [l0, l1, l2, l3, l4, l5, l6, some (aI x)] L2 St S = ev c 314 1690 [l0, l1, l2, l3, l4, l5, l6, some (aI x)] L2 (aI x :: St) S := ev_go i314_1688 rfl
theorem i314_1690 : insAt 314 1690 = some (.i2l, 1, (0, 0, 0, 0), 0) := rfl
theorem s314_1690 {c : Nat → List AV → SS → Option Out} {l0 l1 l2 l3 l4 l5 l6 l7 : Option AV} {x : Int32} {L2 : List (Nat × AV)} {St : List AV} {S : SS} : ev c 314 1690 [l0, l1, l2, l3, l4, l5, l6, l7] L2 (aI x :: St) S = ev c 314 1691 [l0, l1, l2, l3, l4, l5, l6, l7] L2 (aL x.toInt64 :: St) S := ev_go i314_1690 rfl
theorem i314_1691 : insAt 314 1691 = some (.lcmp, 1, (0, 0, 0, 0), 0) := rfl
theorem s314_1691 {c : Nat → List AV → SS → Option Out} {l0 l1 l2 l3 l4 l5 l6 l7 : Option AV} {x y : Int64} {L2 : List (Nat × AV)} {St : List AV} {S : SS} : ev c 314 1691 [l0, l1, l2, l3, l4, l5, l6, l7] L2 (aL y :: aL x :: St) S = ev c 314 1692 [l0, l1, l2, l3, l4, l5, l6, l7] L2 (aI (if x < y then -1 else if x = y then 0 else 1) :: St) S := ev_go i314_1691 rfl
theorem i314_1692 : insAt 314 1692 = some (.ifCond .eq 5, 3, (0, 0, 0, 0), 0) := rfl
theorem s314_1692 {c : Nat → List AV → SS → Option Out} {l0 l1 l2 l3 l4 l5 l6 l7 : Option AV} {x : Int32} {L2 : List (Nat × AV)} {St : List AV} {S : SS} : ev c 314 1692 [l0, l1, l2, l3, l4, l5, l6, l7] L2 (aI x :: St) S = if x = 0 then ev c 314 1697 [l0, l1, l2, l3, l4, l5, l6, l7] L2 St S else ev c 314 1695 [l0, l1, l2, l3, l4, l5, l6, l7] L2 St S := ev_br i314_1692 rfl
theorem i314_1695 : insAt 314 1695 = some (.iconst 0, 1, (0, 0, 0, 0), 0) := rfl
theorem s314_1695 {c : Nat → List AV → SS → Option Out} {l0 l1 l2 l3 l4 l5 l6 l7 : Option AV} {L2 : List (Nat × AV)} {St : List AV} {S : SS} : ev c 314 1695 [l0, l1, l2, l3, l4, l5, l6, l7] L2 St S = ev c 314 1696 [l0, l1, l2, l3, l4, l5, l6, l7] L2 (aI 0 :: St) S := ev_go i314_1695 rfl
theorem i314_1696 : insAt 314 1696 = some (.ireturn, 1, (0, 0, 0, 0), 0) := rfl
theorem s314_1696 {c : Nat → List AV → SS → Option Out} {l0 l1 l2 l3 l4 l5 l6 l7 : Option AV} {x : Int32} {L2 : List (Nat × AV)} {St : List AV} {S : SS} : ev c 314 1696 [l0, l1, l2, l3, l4, l5, l6, l7] L2 [aI x] S = if x = 0 ∨ x = 1 then some (.inl (some (aI x)), S) else none := ev_rt i314_1696 rfl
theorem i314_1697 : insAt 314 1697 = some (.goto 1102, 3, (0, 0, 0, 0), 0) := rfl
theorem s314_1697 {c : Nat → List AV → SS → Option Out} {l0 l1 l2 l3 l4 l5 l6 l7 : Option AV} {L2 : List (Nat × AV)} {St : List AV} {S : SS} : ev c 314 1697 [l0, l1, l2, l3, l4, l5, l6, l7] L2 St S = ev c 314 2799 [l0, l1, l2, l3, l4, l5, l6, l7] L2 St S := ev_go i314_1697 rfl
theorem i314_1700 : insAt 314 1700 = some (.aload_n 1, 1, (0, 0, 0, 0), 0) := rfl
theorem s314_1700 {c : Nat → List AV → SS → Option Out} {l0 l2 l3 l4 l5 l6 l7 : Option AV} {o : OId} {L2 : List (Nat × AV)} {St : List AV} {S : SS} : ev c 314 1700 [l0, some (aR o), l2, l3, l4, l5, l6, l7] L2 St S = ev c 314 1701 [l0, some (aR o), l2, l3, l4, l5, l6, l7] L2 (aR o :: St) S := ev_go i314_1700 rfl
theorem i314_1701 : insAt 314 1701 = some (.aload_n 0, 1, (0, 0, 0, 0), 0) := rfl
theorem s314_1701 {c : Nat → List AV → SS → Option Out} {l1 l2 l3 l4 l5 l6 l7 : Option AV} {o : OId} {L2 : List (Nat × AV)} {St : List AV} {S : SS} : ev c 314 1701 [some (aR o), l1, l2, l3, l4, l5, l6, l7] L2 St S = ev c 314 1702 [some (aR o), l1, l2, l3, l4, l5, l6, l7] L2 (aR o :: St) S := ev_go i314_1701 rfl
theorem i314_1702 : insAt 314 1702 = some (.iload 5, 2, (0, 0, 0, 0), 0) := rfl
theorem s314_1702 {c : Nat → List AV → SS → Option Out} {l0 l1 l2 l3 l4 l6 l7 : Option AV} {x : Int32} {L2 : List (Nat × AV)} {St : List AV} {S : SS} : ev c 314 1702 [l0, l1, l2, l3, l4, some (aI x), l6, l7] L2 St S = ev c 314 1704 [l0, l1, l2, l3, l4, some (aI x), l6, l7] L2 (aI x :: St) S := ev_go i314_1702 rfl
theorem i314_1704 : insAt 314 1704 = some (.iconst 1, 1, (0, 0, 0, 0), 0) := rfl
theorem s314_1704 {c : Nat → List AV → SS → Option Out} {l0 l1 l2 l3 l4 l5 l6 l7 : Option AV} {L2 : List (Nat × AV)} {St : List AV} {S : SS} : ev c 314 1704 [l0, l1, l2, l3, l4, l5, l6, l7] L2 St S = ev c 314 1705 [l0, l1, l2, l3, l4, l5, l6, l7] L2 (aI 1 :: St) S := ev_go i314_1704 rfl
theorem i314_1705 : insAt 314 1705 = some (.iadd, 1, (0, 0, 0, 0), 0) := rfl
theorem s314_1705 {c : Nat → List AV → SS → Option Out} {l0 l1 l2 l3 l4 l5 l6 l7 : Option AV} {x y : Int32} {L2 : List (Nat × AV)} {St : List AV} {S : SS} : ev c 314 1705 [l0, l1, l2, l3, l4, l5, l6, l7] L2 (aI y :: aI x :: St) S = ev c 314 1706 [l0, l1, l2, l3, l4, l5, l6, l7] L2 (aI (x + y) :: St) S := ev_go i314_1705 rfl
theorem i314_1706 : insAt 314 1706 = some (.iaload, 1, (0, 0, 0, 0), 0) := rfl
theorem s314_1706 {c : Nat → List AV → SS → Option Out} {l0 l1 l2 l3 l4 l5 l6 l7 : Option AV} {i : Int32} {o : OId} {L2 : List (Nat × AV)} {St : List AV} {S : SS} : ev c 314 1706 [l0, l1, l2, l3, l4, l5, l6, l7] L2 (aI i :: aR o :: St) S = kI o i (ev c 314 1707 [l0, l1, l2, l3, l4, l5, l6, l7] L2 (aI (agI S o i.toNatClampNeg) :: St) S) := ev_iaload i314_1706
theorem i314_1707 : insAt 314 1707 = some (.aload_n 0, 1, (0, 0, 0, 0), 0) := rfl
theorem s314_1707 {c : Nat → List AV → SS → Option Out} {l1 l2 l3 l4 l5 l6 l7 : Option AV} {o : OId} {L2 : List (Nat × AV)} {St : List AV} {S : SS} : ev c 314 1707 [some (aR o), l1, l2, l3, l4, l5, l6, l7] L2 St S = ev c 314 1708 [some (aR o), l1, l2, l3, l4, l5, l6, l7] L2 (aR o :: St) S := ev_go i314_1707 rfl
theorem i314_1708 : insAt 314 1708 = some (.iload 5, 2, (0, 0, 0, 0), 0) := rfl
theorem s314_1708 {c : Nat → List AV → SS → Option Out} {l0 l1 l2 l3 l4 l6 l7 : Option AV} {x : Int32} {L2 : List (Nat × AV)} {St : List AV} {S : SS} : ev c 314 1708 [l0, l1, l2, l3, l4, some (aI x), l6, l7] L2 St S = ev c 314 1710 [l0, l1, l2, l3, l4, some (aI x), l6, l7] L2 (aI x :: St) S := ev_go i314_1708 rfl
theorem i314_1710 : insAt 314 1710 = some (.iconst 2, 1, (0, 0, 0, 0), 0) := rfl
theorem s314_1710 {c : Nat → List AV → SS → Option Out} {l0 l1 l2 l3 l4 l5 l6 l7 : Option AV} {L2 : List (Nat × AV)} {St : List AV} {S : SS} : ev c 314 1710 [l0, l1, l2, l3, l4, l5, l6, l7] L2 St S = ev c 314 1711 [l0, l1, l2, l3, l4, l5, l6, l7] L2 (aI 2 :: St) S := ev_go i314_1710 rfl
theorem i314_1711 : insAt 314 1711 = some (.iadd, 1, (0, 0, 0, 0), 0) := rfl
theorem s314_1711 {c : Nat → List AV → SS → Option Out} {l0 l1 l2 l3 l4 l5 l6 l7 : Option AV} {x y : Int32} {L2 : List (Nat × AV)} {St : List AV} {S : SS} : ev c 314 1711 [l0, l1, l2, l3, l4, l5, l6, l7] L2 (aI y :: aI x :: St) S = ev c 314 1712 [l0, l1, l2, l3, l4, l5, l6, l7] L2 (aI (x + y) :: St) S := ev_go i314_1711 rfl
theorem i314_1712 : insAt 314 1712 = some (.iaload, 1, (0, 0, 0, 0), 0) := rfl
theorem s314_1712 {c : Nat → List AV → SS → Option Out} {l0 l1 l2 l3 l4 l5 l6 l7 : Option AV} {i : Int32} {o : OId} {L2 : List (Nat × AV)} {St : List AV} {S : SS} : ev c 314 1712 [l0, l1, l2, l3, l4, l5, l6, l7] L2 (aI i :: aR o :: St) S = kI o i (ev c 314 1713 [l0, l1, l2, l3, l4, l5, l6, l7] L2 (aI (agI S o i.toNatClampNeg) :: St) S) := ev_iaload i314_1712
theorem i314_1713 : insAt 314 1713 = some (.aload_n 0, 1, (0, 0, 0, 0), 0) := rfl
theorem s314_1713 {c : Nat → List AV → SS → Option Out} {l1 l2 l3 l4 l5 l6 l7 : Option AV} {o : OId} {L2 : List (Nat × AV)} {St : List AV} {S : SS} : ev c 314 1713 [some (aR o), l1, l2, l3, l4, l5, l6, l7] L2 St S = ev c 314 1714 [some (aR o), l1, l2, l3, l4, l5, l6, l7] L2 (aR o :: St) S := ev_go i314_1713 rfl
theorem i314_1714 : insAt 314 1714 = some (.iload 5, 2, (0, 0, 0, 0), 0) := rfl
theorem s314_1714 {c : Nat → List AV → SS → Option Out} {l0 l1 l2 l3 l4 l6 l7 : Option AV} {x : Int32} {L2 : List (Nat × AV)} {St : List AV} {S : SS} : ev c 314 1714 [l0, l1, l2, l3, l4, some (aI x), l6, l7] L2 St S = ev c 314 1716 [l0, l1, l2, l3, l4, some (aI x), l6, l7] L2 (aI x :: St) S := ev_go i314_1714 rfl
theorem i314_1716 : insAt 314 1716 = some (.iconst 3, 1, (0, 0, 0, 0), 0) := rfl
theorem s314_1716 {c : Nat → List AV → SS → Option Out} {l0 l1 l2 l3 l4 l5 l6 l7 : Option AV} {L2 : List (Nat × AV)} {St : List AV} {S : SS} : ev c 314 1716 [l0, l1, l2, l3, l4, l5, l6, l7] L2 St S = ev c 314 1717 [l0, l1, l2, l3, l4, l5, l6, l7] L2 (aI 3 :: St) S := ev_go i314_1716 rfl
theorem i314_1717 : insAt 314 1717 = some (.iadd, 1, (0, 0, 0, 0), 0) := rfl
theorem s314_1717 {c : Nat → List AV → SS → Option Out} {l0 l1 l2 l3 l4 l5 l6 l7 : Option AV} {x y : Int32} {L2 : List (Nat × AV)} {St : List AV} {S : SS} : ev c 314 1717 [l0, l1, l2, l3, l4, l5, l6, l7] L2 (aI y :: aI x :: St) S = ev c 314 1718 [l0, l1, l2, l3, l4, l5, l6, l7] L2 (aI (x + y) :: St) S := ev_go i314_1717 rfl
theorem i314_1718 : insAt 314 1718 = some (.iaload, 1, (0, 0, 0, 0), 0) := rfl
theorem s314_1718 {c : Nat → List AV → SS → Option Out} {l0 l1 l2 l3 l4 l5 l6 l7 : Option AV} {i : Int32} {o : OId} {L2 : List (Nat × AV)} {St : List AV} {S : SS} : ev c 314 1718 [l0, l1, l2, l3, l4, l5, l6, l7] L2 (aI i :: aR o :: St) S = kI o i (ev c 314 1719 [l0, l1, l2, l3, l4, l5, l6, l7] L2 (aI (agI S o i.toNatClampNeg) :: St) S) := ev_iaload i314_1718
theorem i314_1719 : insAt 314 1719 = some (.aload_n 3, 1, (0, 0, 0, 0), 0) := rfl
theorem s314_1719 {c : Nat → List AV → SS → Option Out} {l0 l1 l2 l4 l5 l6 l7 : Option AV} {o : OId} {L2 : List (Nat × AV)} {St : List AV} {S : SS} : ev c 314 1719 [l0, l1, l2, some (aR o), l4, l5, l6, l7] L2 St S = ev c 314 1720 [l0, l1, l2, some (aR o), l4, l5, l6, l7] L2 (aR o :: St) S := ev_go i314_1719 rfl
theorem i314_1720 : insAt 314 1720 = some (.invokestatic 247, 3, (134, 5, 0, 0), 0) := rfl
theorem s314_1720 {c : Nat → List AV → SS → Option Out} {l0 l1 l2 l3 l4 l5 l6 l7 : Option AV} {a0 : OId} {a1 : Int32} {a2 : Int32} {a3 : Int32} {a4 : OId} {L2 : List (Nat × AV)} {S : SS} : ev c 314 1720 [l0, l1, l2, l3, l4, l5, l6, l7] L2 [aR a4, aI a3, aI a2, aI a1, aR a0] S = ck (c 134 [aR a0, aI a1, aI a2, aI a3, aR a4] S) (fun v S' => ev c 314 1723 [l0, l1, l2, l3, l4, l5, l6, l7] L2 (v.toList ++ []) S') := ev_call i314_1720 rfl
theorem i314_1723 : insAt 314 1723 = some (.istore 6, 2, (0, 0, 0, 0), 0) := rfl
theorem s314_1723 {c : Nat → List AV → SS → Option Out} {l0 l1 l2 l3 l4 l5 l6 l7 : Option AV} {x : Int32} {L2 : List (Nat × AV)} {St : List AV} {S : SS} : ev c 314 1723 [l0, l1, l2, l3, l4, l5, l6, l7] L2 (aI x :: St) S = ev c 314 1725 [l0, l1, l2, l3, l4, l5, some (aI x), l7] (kil L2 6) St S := ev_go i314_1723 rfl
theorem i314_1725 : insAt 314 1725 = some (.aload_n 2, 1, (0, 0, 0, 0), 0) := rfl
theorem s314_1725 {c : Nat → List AV → SS → Option Out} {l0 l1 l3 l4 l5 l6 l7 : Option AV} {o : OId} {L2 : List (Nat × AV)} {St : List AV} {S : SS} : ev c 314 1725 [l0, l1, some (aR o), l3, l4, l5, l6, l7] L2 St S = ev c 314 1726 [l0, l1, some (aR o), l3, l4, l5, l6, l7] L2 (aR o :: St) S := ev_go i314_1725 rfl
theorem i314_1726 : insAt 314 1726 = some (.aload_n 0, 1, (0, 0, 0, 0), 0) := rfl
theorem s314_1726 {c : Nat → List AV → SS → Option Out} {l1 l2 l3 l4 l5 l6 l7 : Option AV} {o : OId} {L2 : List (Nat × AV)} {St : List AV} {S : SS} : ev c 314 1726 [some (aR o), l1, l2, l3, l4, l5, l6, l7] L2 St S = ev c 314 1727 [some (aR o), l1, l2, l3, l4, l5, l6, l7] L2 (aR o :: St) S := ev_go i314_1726 rfl
theorem i314_1727 : insAt 314 1727 = some (.iload 5, 2, (0, 0, 0, 0), 0) := rfl
theorem s314_1727 {c : Nat → List AV → SS → Option Out} {l0 l1 l2 l3 l4 l6 l7 : Option AV} {x : Int32} {L2 : List (Nat × AV)} {St : List AV} {S : SS} : ev c 314 1727 [l0, l1, l2, l3, l4, some (aI x), l6, l7] L2 St S = ev c 314 1729 [l0, l1, l2, l3, l4, some (aI x), l6, l7] L2 (aI x :: St) S := ev_go i314_1727 rfl
theorem i314_1729 : insAt 314 1729 = some (.iconst 1, 1, (0, 0, 0, 0), 0) := rfl
theorem s314_1729 {c : Nat → List AV → SS → Option Out} {l0 l1 l2 l3 l4 l5 l6 l7 : Option AV} {L2 : List (Nat × AV)} {St : List AV} {S : SS} : ev c 314 1729 [l0, l1, l2, l3, l4, l5, l6, l7] L2 St S = ev c 314 1730 [l0, l1, l2, l3, l4, l5, l6, l7] L2 (aI 1 :: St) S := ev_go i314_1729 rfl
theorem i314_1730 : insAt 314 1730 = some (.iadd, 1, (0, 0, 0, 0), 0) := rfl
theorem s314_1730 {c : Nat → List AV → SS → Option Out} {l0 l1 l2 l3 l4 l5 l6 l7 : Option AV} {x y : Int32} {L2 : List (Nat × AV)} {St : List AV} {S : SS} : ev c 314 1730 [l0, l1, l2, l3, l4, l5, l6, l7] L2 (aI y :: aI x :: St) S = ev c 314 1731 [l0, l1, l2, l3, l4, l5, l6, l7] L2 (aI (x + y) :: St) S := ev_go i314_1730 rfl
theorem i314_1731 : insAt 314 1731 = some (.iaload, 1, (0, 0, 0, 0), 0) := rfl
theorem s314_1731 {c : Nat → List AV → SS → Option Out} {l0 l1 l2 l3 l4 l5 l6 l7 : Option AV} {i : Int32} {o : OId} {L2 : List (Nat × AV)} {St : List AV} {S : SS} : ev c 314 1731 [l0, l1, l2, l3, l4, l5, l6, l7] L2 (aI i :: aR o :: St) S = kI o i (ev c 314 1732 [l0, l1, l2, l3, l4, l5, l6, l7] L2 (aI (agI S o i.toNatClampNeg) :: St) S) := ev_iaload i314_1731
theorem i314_1732 : insAt 314 1732 = some (.aload_n 0, 1, (0, 0, 0, 0), 0) := rfl
theorem s314_1732 {c : Nat → List AV → SS → Option Out} {l1 l2 l3 l4 l5 l6 l7 : Option AV} {o : OId} {L2 : List (Nat × AV)} {St : List AV} {S : SS} : ev c 314 1732 [some (aR o), l1, l2, l3, l4, l5, l6, l7] L2 St S = ev c 314 1733 [some (aR o), l1, l2, l3, l4, l5, l6, l7] L2 (aR o :: St) S := ev_go i314_1732 rfl
theorem i314_1733 : insAt 314 1733 = some (.iload 5, 2, (0, 0, 0, 0), 0) := rfl
theorem s314_1733 {c : Nat → List AV → SS → Option Out} {l0 l1 l2 l3 l4 l6 l7 : Option AV} {x : Int32} {L2 : List (Nat × AV)} {St : List AV} {S : SS} : ev c 314 1733 [l0, l1, l2, l3, l4, some (aI x), l6, l7] L2 St S = ev c 314 1735 [l0, l1, l2, l3, l4, some (aI x), l6, l7] L2 (aI x :: St) S := ev_go i314_1733 rfl
theorem i314_1735 : insAt 314 1735 = some (.iconst 2, 1, (0, 0, 0, 0), 0) := rfl
theorem s314_1735 {c : Nat → List AV → SS → Option Out} {l0 l1 l2 l3 l4 l5 l6 l7 : Option AV} {L2 : List (Nat × AV)} {St : List AV} {S : SS} : ev c 314 1735 [l0, l1, l2, l3, l4, l5, l6, l7] L2 St S = ev c 314 1736 [l0, l1, l2, l3, l4, l5, l6, l7] L2 (aI 2 :: St) S := ev_go i314_1735 rfl
theorem i314_1736 : insAt 314 1736 = some (.iadd, 1, (0, 0, 0, 0), 0) := rfl
theorem s314_1736 {c : Nat → List AV → SS → Option Out} {l0 l1 l2 l3 l4 l5 l6 l7 : Option AV} {x y : Int32} {L2 : List (Nat × AV)} {St : List AV} {S : SS} : ev c 314 1736 [l0, l1, l2, l3, l4, l5, l6, l7] L2 (aI y :: aI x :: St) S = ev c 314 1737 [l0, l1, l2, l3, l4, l5, l6, l7] L2 (aI (x + y) :: St) S := ev_go i314_1736 rfl
theorem i314_1737 : insAt 314 1737 = some (.iaload, 1, (0, 0, 0, 0), 0) := rfl
theorem s314_1737 {c : Nat → List AV → SS → Option Out} {l0 l1 l2 l3 l4 l5 l6 l7 : Option AV} {i : Int32} {o : OId} {L2 : List (Nat × AV)} {St : List AV} {S : SS} : ev c 314 1737 [l0, l1, l2, l3, l4, l5, l6, l7] L2 (aI i :: aR o :: St) S = kI o i (ev c 314 1738 [l0, l1, l2, l3, l4, l5, l6, l7] L2 (aI (agI S o i.toNatClampNeg) :: St) S) := ev_iaload i314_1737
theorem i314_1738 : insAt 314 1738 = some (.aload_n 0, 1, (0, 0, 0, 0), 0) := rfl
theorem s314_1738 {c : Nat → List AV → SS → Option Out} {l1 l2 l3 l4 l5 l6 l7 : Option AV} {o : OId} {L2 : List (Nat × AV)} {St : List AV} {S : SS} : ev c 314 1738 [some (aR o), l1, l2, l3, l4, l5, l6, l7] L2 St S = ev c 314 1739 [some (aR o), l1, l2, l3, l4, l5, l6, l7] L2 (aR o :: St) S := ev_go i314_1738 rfl
theorem i314_1739 : insAt 314 1739 = some (.iload 5, 2, (0, 0, 0, 0), 0) := rfl
theorem s314_1739 {c : Nat → List AV → SS → Option Out} {l0 l1 l2 l3 l4 l6 l7 : Option AV} {x : Int32} {L2 : List (Nat × AV)} {St : List AV} {S : SS} : ev c 314 1739 [l0, l1, l2, l3, l4, some (aI x), l6, l7] L2 St S = ev c 314 1741 [l0, l1, l2, l3, l4, some (aI x), l6, l7] L2 (aI x :: St) S := ev_go i314_1739 rfl
theorem i314_1741 : insAt 314 1741 = some (.iconst 3, 1, (0, 0, 0, 0), 0) := rfl
theorem s314_1741 {c : Nat → List AV → SS → Option Out} {l0 l1 l2 l3 l4 l5 l6 l7 : Option AV} {L2 : List (Nat × AV)} {St : List AV} {S : SS} : ev c 314 1741 [l0, l1, l2, l3, l4, l5, l6, l7] L2 St S = ev c 314 1742 [l0, l1, l2, l3, l4, l5, l6, l7] L2 (aI 3 :: St) S := ev_go i314_1741 rfl
theorem i314_1742 : insAt 314 1742 = some (.iadd, 1, (0, 0, 0, 0), 0) := rfl
theorem s314_1742 {c : Nat → List AV → SS → Option Out} {l0 l1 l2 l3 l4 l5 l6 l7 : Option AV} {x y : Int32} {L2 : List (Nat × AV)} {St : List AV} {S : SS} : ev c 314 1742 [l0, l1, l2, l3, l4, l5, l6, l7] L2 (aI y :: aI x :: St) S = ev c 314 1743 [l0, l1, l2, l3, l4, l5, l6, l7] L2 (aI (x + y) :: St) S := ev_go i314_1742 rfl
theorem i314_1743 : insAt 314 1743 = some (.iaload, 1, (0, 0, 0, 0), 0) := rfl
theorem s314_1743 {c : Nat → List AV → SS → Option Out} {l0 l1 l2 l3 l4 l5 l6 l7 : Option AV} {i : Int32} {o : OId} {L2 : List (Nat × AV)} {St : List AV} {S : SS} : ev c 314 1743 [l0, l1, l2, l3, l4, l5, l6, l7] L2 (aI i :: aR o :: St) S = kI o i (ev c 314 1744 [l0, l1, l2, l3, l4, l5, l6, l7] L2 (aI (agI S o i.toNatClampNeg) :: St) S) := ev_iaload i314_1743
theorem i314_1744 : insAt 314 1744 = some (.invokevirtual 249, 3, (284, 3, 2, 12), 0) := rfl
theorem s314_1744 {c : Nat → List AV → SS → Option Out} {l0 l1 l2 l3 l4 l5 l6 l7 : Option AV} {a0 : Int32} {a1 : Int32} {a2 : Int32} {j t : Nat} {L2 : List (Nat × AV)} {S : SS} : ev c 314 1744 [l0, l1, l2, l3, l4, l5, l6, l7] L2 [aI a2, aI a1, aI a0, aR (12, j, t)] S = ck (c 284 [aR (12, j, t), aI a0, aI a1, aI a2] S) (fun v S' => ev c 314 1747 [l0, l1, l2, l3, l4, l5, l6, l7] L2 (v.toList ++ []) S') := ev_call i314_1744 rfl
theorem i314_1747 : insAt 314 1747 = some (.istore 7, 2, (0, 0, 0, 0), 0) := rfl
theorem s314_1747 {c : Nat → List AV → SS → Option Out} {l0 l1 l2 l3 l4 l5 l6 l7 : Option AV} {x : Int32} {L2 : List (Nat × AV)} {St : List AV} {S : SS} : ev c 314 1747 [l0, l1, l2, l3, l4, l5, l6, l7] L2 (aI x :: St) S = ev c 314 1749 [l0, l1, l2, l3, l4, l5, l6, some (aI x)] (kil L2 7) St S := ev_go i314_1747 rfl
theorem i314_1749 : insAt 314 1749 = some (.aload_n 2, 1, (0, 0, 0, 0), 0) := rfl
theorem s314_1749 {c : Nat → List AV → SS → Option Out} {l0 l1 l3 l4 l5 l6 l7 : Option AV} {o : OId} {L2 : List (Nat × AV)} {St : List AV} {S : SS} : ev c 314 1749 [l0, l1, some (aR o), l3, l4, l5, l6, l7] L2 St S = ev c 314 1750 [l0, l1, some (aR o), l3, l4, l5, l6, l7] L2 (aR o :: St) S := ev_go i314_1749 rfl
theorem i314_1750 : insAt 314 1750 = some (.invokevirtual 149, 3, (218, 0, 2, 12), 0) := rfl
theorem s314_1750 {c : Nat → List AV → SS → Option Out} {l0 l1 l2 l3 l4 l5 l6 l7 : Option AV} {j t : Nat} {L2 : List (Nat × AV)} {S : SS} : ev c 314 1750 [l0, l1, l2, l3, l4, l5, l6, l7] L2 [aR (12, j, t)] S = ck (c 218 [aR (12, j, t)] S) (fun v S' => ev c 314 1753 [l0, l1, l2, l3, l4, l5, l6, l7] L2 (v.toList ++ []) S') := ev_call i314_1750 rfl
theorem i314_1753 : insAt 314 1753 = some (.iload 6, 2, (0, 0, 0, 0), 0) := rfl
theorem s314_1753 {c : Nat → List AV → SS → Option Out} {l0 l1 l2 l3 l4 l5 l7 : Option AV} {x : Int32} {L2 : List (Nat × AV)} {St : List AV} {S : SS} : ev c 314 1753 [l0, l1, l2, l3, l4, l5, some (aI x), l7] L2 St S = ev c 314 1755 [l0, l1, l2, l3, l4, l5, some (aI x), l7] L2 (aI x :: St) S := ev_go i314_1753 rfl
theorem i314_1755 : insAt 314 1755 = some (.if_icmp .eq 5, 3, (0, 0, 0, 0), 0) := rfl
theorem s314_1755 {c : Nat → List AV → SS → Option Out} {l0 l1 l2 l3 l4 l5 l6 l7 : Option AV} {x y : Int32} {L2 : List (Nat × AV)} {St : List AV} {S : SS} : ev c 314 1755 [l0, l1, l2, l3, l4, l5, l6, l7] L2 (aI y :: aI x :: St) S = if x = y then ev c 314 1760 [l0, l1, l2, l3, l4, l5, l6, l7] L2 St S else ev c 314 1758 [l0, l1, l2, l3, l4, l5, l6, l7] L2 St S := ev_br i314_1755 rfl
theorem i314_1758 : insAt 314 1758 = some (.iconst 0, 1, (0, 0, 0, 0), 0) := rfl
theorem s314_1758 {c : Nat → List AV → SS → Option Out} {l0 l1 l2 l3 l4 l5 l6 l7 : Option AV} {L2 : List (Nat × AV)} {St : List AV} {S : SS} : ev c 314 1758 [l0, l1, l2, l3, l4, l5, l6, l7] L2 St S = ev c 314 1759 [l0, l1, l2, l3, l4, l5, l6, l7] L2 (aI 0 :: St) S := ev_go i314_1758 rfl
theorem i314_1759 : insAt 314 1759 = some (.ireturn, 1, (0, 0, 0, 0), 0) := rfl
theorem s314_1759 {c : Nat → List AV → SS → Option Out} {l0 l1 l2 l3 l4 l5 l6 l7 : Option AV} {x : Int32} {L2 : List (Nat × AV)} {St : List AV} {S : SS} : ev c 314 1759 [l0, l1, l2, l3, l4, l5, l6, l7] L2 [aI x] S = if x = 0 ∨ x = 1 then some (.inl (some (aI x)), S) else none := ev_rt i314_1759 rfl
theorem i314_1760 : insAt 314 1760 = some (.iload 6, 2, (0, 0, 0, 0), 0) := rfl
theorem s314_1760 {c : Nat → List AV → SS → Option Out} {l0 l1 l2 l3 l4 l5 l7 : Option AV} {x : Int32} {L2 : List (Nat × AV)} {St : List AV} {S : SS} : ev c 314 1760 [l0, l1, l2, l3, l4, l5, some (aI x), l7] L2 St S = ev c 314 1762 [l0, l1, l2, l3, l4, l5, some (aI x), l7] L2 (aI x :: St) S := ev_go i314_1760 rfl
theorem i314_1762 : insAt 314 1762 = some (.ifCond .ne 15, 3, (0, 0, 0, 0), 0) := rfl
theorem s314_1762 {c : Nat → List AV → SS → Option Out} {l0 l1 l2 l3 l4 l5 l6 l7 : Option AV} {x : Int32} {L2 : List (Nat × AV)} {St : List AV} {S : SS} : ev c 314 1762 [l0, l1, l2, l3, l4, l5, l6, l7] L2 (aI x :: St) S = if x = 0 then ev c 314 1765 [l0, l1, l2, l3, l4, l5, l6, l7] L2 St S else ev c 314 1777 [l0, l1, l2, l3, l4, l5, l6, l7] L2 St S := (ev_br i314_1762 rfl).trans (ite_not _ _ _)
theorem i314_1765 : insAt 314 1765 = some (.aload_n 3, 1, (0, 0, 0, 0), 0) := rfl
theorem s314_1765 {c : Nat → List AV → SS → Option Out} {l0 l1 l2 l4 l5 l6 l7 : Option AV} {o : OId} {L2 : List (Nat × AV)} {St : List AV} {S : SS} : ev c 314 1765 [l0, l1, l2, some (aR o), l4, l5, l6, l7] L2 St S = ev c 314 1766 [l0, l1, l2, some (aR o), l4, l5, l6, l7] L2 (aR o :: St) S := ev_go i314_1765 rfl
theorem i314_1766 : insAt 314 1766 = some (.iconst 0, 1, (0, 0, 0, 0), 0) := rfl
theorem s314_1766 {c : Nat → List AV → SS → Option Out} {l0 l1 l2 l3 l4 l5 l6 l7 : Option AV} {L2 : List (Nat × AV)} {St : List AV} {S : SS} : ev c 314 1766 [l0, l1, l2, l3, l4, l5, l6, l7] L2 St S = ev c 314 1767 [l0, l1, l2, l3, l4, l5, l6, l7] L2 (aI 0 :: St) S := ev_go i314_1766 rfl
theorem i314_1767 : insAt 314 1767 = some (.laload, 1, (0, 0, 0, 0), 0) := rfl
theorem s314_1767 {c : Nat → List AV → SS → Option Out} {l0 l1 l2 l3 l4 l5 l6 l7 : Option AV} {i : Int32} {o : OId} {L2 : List (Nat × AV)} {St : List AV} {S : SS} : ev c 314 1767 [l0, l1, l2, l3, l4, l5, l6, l7] L2 (aI i :: aR o :: St) S = kJ o i (ev c 314 1768 [l0, l1, l2, l3, l4, l5, l6, l7] L2 (aL (toL (S.2.1 o i.toNatClampNeg)) :: St) S) := ev_laload i314_1767
theorem i314_1768 : insAt 314 1768 = some (.iload 7, 2, (0, 0, 0, 0), 0) := rfl
theorem s314_1768 {c : Nat → List AV → SS → Option Out} {l0 l1 l2 l3 l4 l5 l6 : Option AV} {x : Int32} {L2 : List (Nat × AV)} {St : List AV} {S : SS} : ev c 314 1768 [l0, l1, l2, l3, l4, l5, l6, some (aI x)] L2 St S = ev c 314 1770 [l0, l1, l2, l3, l4, l5, l6, some (aI x)] L2 (aI x :: St) S := ev_go i314_1768 rfl
theorem i314_1770 : insAt 314 1770 = some (.i2l, 1, (0, 0, 0, 0), 0) := rfl
theorem s314_1770 {c : Nat → List AV → SS → Option Out} {l0 l1 l2 l3 l4 l5 l6 l7 : Option AV} {x : Int32} {L2 : List (Nat × AV)} {St : List AV} {S : SS} : ev c 314 1770 [l0, l1, l2, l3, l4, l5, l6, l7] L2 (aI x :: St) S = ev c 314 1771 [l0, l1, l2, l3, l4, l5, l6, l7] L2 (aL x.toInt64 :: St) S := ev_go i314_1770 rfl
theorem i314_1771 : insAt 314 1771 = some (.lcmp, 1, (0, 0, 0, 0), 0) := rfl
theorem s314_1771 {c : Nat → List AV → SS → Option Out} {l0 l1 l2 l3 l4 l5 l6 l7 : Option AV} {x y : Int64} {L2 : List (Nat × AV)} {St : List AV} {S : SS} : ev c 314 1771 [l0, l1, l2, l3, l4, l5, l6, l7] L2 (aL y :: aL x :: St) S = ev c 314 1772 [l0, l1, l2, l3, l4, l5, l6, l7] L2 (aI (if x < y then -1 else if x = y then 0 else 1) :: St) S := ev_go i314_1771 rfl
theorem i314_1772 : insAt 314 1772 = some (.ifCond .eq 5, 3, (0, 0, 0, 0), 0) := rfl
theorem s314_1772 {c : Nat → List AV → SS → Option Out} {l0 l1 l2 l3 l4 l5 l6 l7 : Option AV} {x : Int32} {L2 : List (Nat × AV)} {St : List AV} {S : SS} : ev c 314 1772 [l0, l1, l2, l3, l4, l5, l6, l7] L2 (aI x :: St) S = if x = 0 then ev c 314 1777 [l0, l1, l2, l3, l4, l5, l6, l7] L2 St S else ev c 314 1775 [l0, l1, l2, l3, l4, l5, l6, l7] L2 St S := ev_br i314_1772 rfl
theorem i314_1775 : insAt 314 1775 = some (.iconst 0, 1, (0, 0, 0, 0), 0) := rfl
theorem s314_1775 {c : Nat → List AV → SS → Option Out} {l0 l1 l2 l3 l4 l5 l6 l7 : Option AV} {L2 : List (Nat × AV)} {St : List AV} {S : SS} : ev c 314 1775 [l0, l1, l2, l3, l4, l5, l6, l7] L2 St S = ev c 314 1776 [l0, l1, l2, l3, l4, l5, l6, l7] L2 (aI 0 :: St) S := ev_go i314_1775 rfl
theorem i314_1776 : insAt 314 1776 = some (.ireturn, 1, (0, 0, 0, 0), 0) := rfl
theorem s314_1776 {c : Nat → List AV → SS → Option Out} {l0 l1 l2 l3 l4 l5 l6 l7 : Option AV} {x : Int32} {L2 : List (Nat × AV)} {St : List AV} {S : SS} : ev c 314 1776 [l0, l1, l2, l3, l4, l5, l6, l7] L2 [aI x] S = if x = 0 ∨ x = 1 then some (.inl (some (aI x)), S) else none := ev_rt i314_1776 rfl
theorem i314_1777 : insAt 314 1777 = some (.goto 1022, 3, (0, 0, 0, 0), 0) := rfl
theorem s314_1777 {c : Nat → List AV → SS → Option Out} {l0 l1 l2 l3 l4 l5 l6 l7 : Option AV} {L2 : List (Nat × AV)} {St : List AV} {S : SS} : ev c 314 1777 [l0, l1, l2, l3, l4, l5, l6, l7] L2 St S = ev c 314 2799 [l0, l1, l2, l3, l4, l5, l6, l7] L2 St S := ev_go i314_1777 rfl
theorem i314_1780 : insAt 314 1780 = some (.aload_n 1, 1, (0, 0, 0, 0), 0) := rfl
theorem s314_1780 {c : Nat → List AV → SS → Option Out} {l0 l2 l3 l4 l5 l6 l7 : Option AV} {o : OId} {L2 : List (Nat × AV)} {St : List AV} {S : SS} : ev c 314 1780 [l0, some (aR o), l2, l3, l4, l5, l6, l7] L2 St S = ev c 314 1781 [l0, some (aR o), l2, l3, l4, l5, l6, l7] L2 (aR o :: St) S := ev_go i314_1780 rfl
theorem i314_1781 : insAt 314 1781 = some (.aload 4, 2, (0, 0, 0, 0), 0) := rfl
theorem s314_1781 {c : Nat → List AV → SS → Option Out} {l0 l1 l2 l3 l5 l6 l7 : Option AV} {o : OId} {L2 : List (Nat × AV)} {St : List AV} {S : SS} : ev c 314 1781 [l0, l1, l2, l3, some (aR o), l5, l6, l7] L2 St S = ev c 314 1783 [l0, l1, l2, l3, some (aR o), l5, l6, l7] L2 (aR o :: St) S := ev_go i314_1781 rfl
theorem i314_1783 : insAt 314 1783 = some (.invokestatic 250, 3, (136, 2, 0, 0), 0) := rfl
theorem s314_1783 {c : Nat → List AV → SS → Option Out} {l0 l1 l2 l3 l4 l5 l6 l7 : Option AV} {a0 : OId} {a1 : OId} {L2 : List (Nat × AV)} {S : SS} : ev c 314 1783 [l0, l1, l2, l3, l4, l5, l6, l7] L2 [aR a1, aR a0] S = ck (c 136 [aR a0, aR a1] S) (fun v S' => ev c 314 1786 [l0, l1, l2, l3, l4, l5, l6, l7] L2 (v.toList ++ []) S') := ev_call i314_1783 rfl
theorem i314_1786 : insAt 314 1786 = some (.istore 6, 2, (0, 0, 0, 0), 0) := rfl
theorem s314_1786 {c : Nat → List AV → SS → Option Out} {l0 l1 l2 l3 l4 l5 l6 l7 : Option AV} {x : Int32} {L2 : List (Nat × AV)} {St : List AV} {S : SS} : ev c 314 1786 [l0, l1, l2, l3, l4, l5, l6, l7] L2 (aI x :: St) S = ev c 314 1788 [l0, l1, l2, l3, l4, l5, some (aI x), l7] (kil L2 6) St S := ev_go i314_1786 rfl
theorem i314_1788 : insAt 314 1788 = some (.aload_n 2, 1, (0, 0, 0, 0), 0) := rfl
theorem s314_1788 {c : Nat → List AV → SS → Option Out} {l0 l1 l3 l4 l5 l6 l7 : Option AV} {o : OId} {L2 : List (Nat × AV)} {St : List AV} {S : SS} : ev c 314 1788 [l0, l1, some (aR o), l3, l4, l5, l6, l7] L2 St S = ev c 314 1789 [l0, l1, some (aR o), l3, l4, l5, l6, l7] L2 (aR o :: St) S := ev_go i314_1788 rfl
theorem i314_1789 : insAt 314 1789 = some (.invokevirtual 253, 3, (285, 0, 2, 12), 0) := rfl
theorem s314_1789 {c : Nat → List AV → SS → Option Out} {l0 l1 l2 l3 l4 l5 l6 l7 : Option AV} {j t : Nat} {L2 : List (Nat × AV)} {S : SS} : ev c 314 1789 [l0, l1, l2, l3, l4, l5, l6, l7] L2 [aR (12, j, t)] S = ck (c 285 [aR (12, j, t)] S) (fun v S' => ev c 314 1792 [l0, l1, l2, l3, l4, l5, l6, l7] L2 (v.toList ++ []) S') := ev_call i314_1789 rfl
theorem i314_1792 : insAt 314 1792 = some (.fstore 7, 2, (0, 0, 0, 0), 0) := rfl
theorem s314_1792 {c : Nat → List AV → SS → Option Out} {l0 l1 l2 l3 l4 l5 l6 l7 : Option AV} {x : UInt32} {L2 : List (Nat × AV)} {St : List AV} {S : SS} : ev c 314 1792 [l0, l1, l2, l3, l4, l5, l6, l7] L2 (aF x :: St) S = ev c 314 1794 [l0, l1, l2, l3, l4, l5, l6, some (aF x)] (kil L2 7) St S := ev_go i314_1792 rfl
theorem i314_1794 : insAt 314 1794 = some (.aload_n 2, 1, (0, 0, 0, 0), 0) := rfl
theorem s314_1794 {c : Nat → List AV → SS → Option Out} {l0 l1 l3 l4 l5 l6 l7 : Option AV} {o : OId} {L2 : List (Nat × AV)} {St : List AV} {S : SS} : ev c 314 1794 [l0, l1, some (aR o), l3, l4, l5, l6, l7] L2 St S = ev c 314 1795 [l0, l1, some (aR o), l3, l4, l5, l6, l7] L2 (aR o :: St) S := ev_go i314_1794 rfl
theorem i314_1795 : insAt 314 1795 = some (.invokevirtual 149, 3, (218, 0, 2, 12), 0) := rfl
theorem s314_1795 {c : Nat → List AV → SS → Option Out} {l0 l1 l2 l3 l4 l5 l6 l7 : Option AV} {j t : Nat} {L2 : List (Nat × AV)} {S : SS} : ev c 314 1795 [l0, l1, l2, l3, l4, l5, l6, l7] L2 [aR (12, j, t)] S = ck (c 218 [aR (12, j, t)] S) (fun v S' => ev c 314 1798 [l0, l1, l2, l3, l4, l5, l6, l7] L2 (v.toList ++ []) S') := ev_call i314_1795 rfl
theorem i314_1798 : insAt 314 1798 = some (.iload 6, 2, (0, 0, 0, 0), 0) := rfl
theorem s314_1798 {c : Nat → List AV → SS → Option Out} {l0 l1 l2 l3 l4 l5 l7 : Option AV} {x : Int32} {L2 : List (Nat × AV)} {St : List AV} {S : SS} : ev c 314 1798 [l0, l1, l2, l3, l4, l5, some (aI x), l7] L2 St S = ev c 314 1800 [l0, l1, l2, l3, l4, l5, some (aI x), l7] L2 (aI x :: St) S := ev_go i314_1798 rfl
theorem i314_1800 : insAt 314 1800 = some (.if_icmp .eq 5, 3, (0, 0, 0, 0), 0) := rfl
theorem s314_1800 {c : Nat → List AV → SS → Option Out} {l0 l1 l2 l3 l4 l5 l6 l7 : Option AV} {x y : Int32} {L2 : List (Nat × AV)} {St : List AV} {S : SS} : ev c 314 1800 [l0, l1, l2, l3, l4, l5, l6, l7] L2 (aI y :: aI x :: St) S = if x = y then ev c 314 1805 [l0, l1, l2, l3, l4, l5, l6, l7] L2 St S else ev c 314 1803 [l0, l1, l2, l3, l4, l5, l6, l7] L2 St S := ev_br i314_1800 rfl
theorem i314_1803 : insAt 314 1803 = some (.iconst 0, 1, (0, 0, 0, 0), 0) := rfl
theorem s314_1803 {c : Nat → List AV → SS → Option Out} {l0 l1 l2 l3 l4 l5 l6 l7 : Option AV} {L2 : List (Nat × AV)} {St : List AV} {S : SS} : ev c 314 1803 [l0, l1, l2, l3, l4, l5, l6, l7] L2 St S = ev c 314 1804 [l0, l1, l2, l3, l4, l5, l6, l7] L2 (aI 0 :: St) S := ev_go i314_1803 rfl
theorem i314_1804 : insAt 314 1804 = some (.ireturn, 1, (0, 0, 0, 0), 0) := rfl
theorem s314_1804 {c : Nat → List AV → SS → Option Out} {l0 l1 l2 l3 l4 l5 l6 l7 : Option AV} {x : Int32} {L2 : List (Nat × AV)} {St : List AV} {S : SS} : ev c 314 1804 [l0, l1, l2, l3, l4, l5, l6, l7] L2 [aI x] S = if x = 0 ∨ x = 1 then some (.inl (some (aI x)), S) else none := ev_rt i314_1804 rfl
theorem i314_1805 : insAt 314 1805 = some (.iload 6, 2, (0, 0, 0, 0), 0) := rfl
theorem s314_1805 {c : Nat → List AV → SS → Option Out} {l0 l1 l2 l3 l4 l5 l7 : Option AV} {x : Int32} {L2 : List (Nat × AV)} {St : List AV} {S : SS} : ev c 314 1805 [l0, l1, l2, l3, l4, l5, some (aI x), l7] L2 St S = ev c 314 1807 [l0, l1, l2, l3, l4, l5, some (aI x), l7] L2 (aI x :: St) S := ev_go i314_1805 rfl
theorem i314_1807 : insAt 314 1807 = some (.ifCond .ne 36, 3, (0, 0, 0, 0), 0) := rfl
theorem s314_1807 {c : Nat → List AV → SS → Option Out} {l0 l1 l2 l3 l4 l5 l6 l7 : Option AV} {x : Int32} {L2 : List (Nat × AV)} {St : List AV} {S : SS} : ev c 314 1807 [l0, l1, l2, l3, l4, l5, l6, l7] L2 (aI x :: St) S = if x = 0 then ev c 314 1810 [l0, l1, l2, l3, l4, l5, l6, l7] L2 St S else ev c 314 1843 [l0, l1, l2, l3, l4, l5, l6, l7] L2 St S := (ev_br i314_1807 rfl).trans (ite_not _ _ _)
theorem i314_1810 : insAt 314 1810 = some (.aload 4, 2, (0, 0, 0, 0), 0) := rfl
theorem s314_1810 {c : Nat → List AV → SS → Option Out} {l0 l1 l2 l3 l5 l6 l7 : Option AV} {o : OId} {L2 : List (Nat × AV)} {St : List AV} {S : SS} : ev c 314 1810 [l0, l1, l2, l3, some (aR o), l5, l6, l7] L2 St S = ev c 314 1812 [l0, l1, l2, l3, some (aR o), l5, l6, l7] L2 (aR o :: St) S := ev_go i314_1810 rfl
theorem i314_1812 : insAt 314 1812 = some (.iconst 0, 1, (0, 0, 0, 0), 0) := rfl
theorem s314_1812 {c : Nat → List AV → SS → Option Out} {l0 l1 l2 l3 l4 l5 l6 l7 : Option AV} {L2 : List (Nat × AV)} {St : List AV} {S : SS} : ev c 314 1812 [l0, l1, l2, l3, l4, l5, l6, l7] L2 St S = ev c 314 1813 [l0, l1, l2, l3, l4, l5, l6, l7] L2 (aI 0 :: St) S := ev_go i314_1812 rfl
theorem i314_1813 : insAt 314 1813 = some (.daload, 1, (0, 0, 0, 0), 0) := rfl
theorem s314_1813 {c : Nat → List AV → SS → Option Out} {l0 l1 l2 l3 l4 l5 l6 l7 : Option AV} {i : Int32} {o : OId} {L2 : List (Nat × AV)} {St : List AV} {S : SS} : ev c 314 1813 [l0, l1, l2, l3, l4, l5, l6, l7] L2 (aI i :: aR o :: St) S = kD o i (ev c 314 1814 [l0, l1, l2, l3, l4, l5, l6, l7] L2 (aD (toD (S.2.1 o i.toNatClampNeg)) :: St) S) := ev_daload i314_1813
theorem i314_1814 : insAt 314 1814 = some (.fload 7, 2, (0, 0, 0, 0), 0) := rfl
theorem s314_1814 {c : Nat → List AV → SS → Option Out} {l0 l1 l2 l3 l4 l5 l6 : Option AV} {x : UInt32} {L2 : List (Nat × AV)} {St : List AV} {S : SS} : ev c 314 1814 [l0, l1, l2, l3, l4, l5, l6, some (aF x)] L2 St S = ev c 314 1816 [l0, l1, l2, l3, l4, l5, l6, some (aF x)] L2 (aF x :: St) S := ev_go i314_1814 rfl
theorem i314_1816 : insAt 314 1816 = some (.f2d, 1, (0, 0, 0, 0), 0) := rfl
theorem s314_1816 {c : Nat → List AV → SS → Option Out} {l0 l1 l2 l3 l4 l5 l6 l7 : Option AV} {x : UInt32} {L2 : List (Nat × AV)} {St : List AV} {S : SS} : ev c 314 1816 [l0, l1, l2, l3, l4, l5, l6, l7] L2 (aF x :: St) S = if FP.f2d x &&& 0x7fffffffffffffff ≤ 0x7ff0000000000000 then ev c 314 1817 [l0, l1, l2, l3, l4, l5, l6, l7] L2 (aD (FP.f2d x) :: St) S else none := ev_if i314_1816 rfl
theorem i314_1817 : insAt 314 1817 = some (.dcmp .l, 1, (0, 0, 0, 0), 0) := rfl
theorem s314_1817 {c : Nat → List AV → SS → Option Out} {l0 l1 l2 l3 l4 l5 l6 l7 : Option AV} {x y : UInt64} {L2 : List (Nat × AV)} {St : List AV} {S : SS} : ev c 314 1817 [l0, l1, l2, l3, l4, l5, l6, l7] L2 (aD y :: aD x :: St) S = ev c 314 1818 [l0, l1, l2, l3, l4, l5, l6, l7] L2 (aI (Op.cmpValue (FP.dcmp x y) .l) :: St) S := ev_go i314_1817 rfl
theorem i314_1818 : insAt 314 1818 = some (.ifCond .eq 25, 3, (0, 0, 0, 0), 0) := rfl
theorem s314_1818 {c : Nat → List AV → SS → Option Out} {l0 l1 l2 l3 l4 l5 l6 l7 : Option AV} {x : Int32} {L2 : List (Nat × AV)} {St : List AV} {S : SS} : ev c 314 1818 [l0, l1, l2, l3, l4, l5, l6, l7] L2 (aI x :: St) S = if x = 0 then ev c 314 1843 [l0, l1, l2, l3, l4, l5, l6, l7] L2 St S else ev c 314 1821 [l0, l1, l2, l3, l4, l5, l6, l7] L2 St S := ev_br i314_1818 rfl
theorem i314_1821 : insAt 314 1821 = some (.aload 4, 2, (0, 0, 0, 0), 0) := rfl
theorem s314_1821 {c : Nat → List AV → SS → Option Out} {l0 l1 l2 l3 l5 l6 l7 : Option AV} {o : OId} {L2 : List (Nat × AV)} {St : List AV} {S : SS} : ev c 314 1821 [l0, l1, l2, l3, some (aR o), l5, l6, l7] L2 St S = ev c 314 1823 [l0, l1, l2, l3, some (aR o), l5, l6, l7] L2 (aR o :: St) S := ev_go i314_1821 rfl
theorem i314_1823 : insAt 314 1823 = some (.iconst 0, 1, (0, 0, 0, 0), 0) := rfl
theorem s314_1823 {c : Nat → List AV → SS → Option Out} {l0 l1 l2 l3 l4 l5 l6 l7 : Option AV} {L2 : List (Nat × AV)} {St : List AV} {S : SS} : ev c 314 1823 [l0, l1, l2, l3, l4, l5, l6, l7] L2 St S = ev c 314 1824 [l0, l1, l2, l3, l4, l5, l6, l7] L2 (aI 0 :: St) S := ev_go i314_1823 rfl
theorem i314_1824 : insAt 314 1824 = some (.daload, 1, (0, 0, 0, 0), 0) := rfl
theorem s314_1824 {c : Nat → List AV → SS → Option Out} {l0 l1 l2 l3 l4 l5 l6 l7 : Option AV} {i : Int32} {o : OId} {L2 : List (Nat × AV)} {St : List AV} {S : SS} : ev c 314 1824 [l0, l1, l2, l3, l4, l5, l6, l7] L2 (aI i :: aR o :: St) S = kD o i (ev c 314 1825 [l0, l1, l2, l3, l4, l5, l6, l7] L2 (aD (toD (S.2.1 o i.toNatClampNeg)) :: St) S) := ev_daload i314_1824
theorem i314_1825 : insAt 314 1825 = some (.aload 4, 2, (0, 0, 0, 0), 0) := rfl
theorem s314_1825 {c : Nat → List AV → SS → Option Out} {l0 l1 l2 l3 l5 l6 l7 : Option AV} {o : OId} {L2 : List (Nat × AV)} {St : List AV} {S : SS} : ev c 314 1825 [l0, l1, l2, l3, some (aR o), l5, l6, l7] L2 St S = ev c 314 1827 [l0, l1, l2, l3, some (aR o), l5, l6, l7] L2 (aR o :: St) S := ev_go i314_1825 rfl
theorem i314_1827 : insAt 314 1827 = some (.iconst 0, 1, (0, 0, 0, 0), 0) := rfl
theorem s314_1827 {c : Nat → List AV → SS → Option Out} {l0 l1 l2 l3 l4 l5 l6 l7 : Option AV} {L2 : List (Nat × AV)} {St : List AV} {S : SS} : ev c 314 1827 [l0, l1, l2, l3, l4, l5, l6, l7] L2 St S = ev c 314 1828 [l0, l1, l2, l3, l4, l5, l6, l7] L2 (aI 0 :: St) S := ev_go i314_1827 rfl
theorem i314_1828 : insAt 314 1828 = some (.daload, 1, (0, 0, 0, 0), 0) := rfl
theorem s314_1828 {c : Nat → List AV → SS → Option Out} {l0 l1 l2 l3 l4 l5 l6 l7 : Option AV} {i : Int32} {o : OId} {L2 : List (Nat × AV)} {St : List AV} {S : SS} : ev c 314 1828 [l0, l1, l2, l3, l4, l5, l6, l7] L2 (aI i :: aR o :: St) S = kD o i (ev c 314 1829 [l0, l1, l2, l3, l4, l5, l6, l7] L2 (aD (toD (S.2.1 o i.toNatClampNeg)) :: St) S) := ev_daload i314_1828
theorem i314_1829 : insAt 314 1829 = some (.dcmp .l, 1, (0, 0, 0, 0), 0) := rfl
theorem s314_1829 {c : Nat → List AV → SS → Option Out} {l0 l1 l2 l3 l4 l5 l6 l7 : Option AV} {x y : UInt64} {L2 : List (Nat × AV)} {St : List AV} {S : SS} : ev c 314 1829 [l0, l1, l2, l3, l4, l5, l6, l7] L2 (aD y :: aD x :: St) S = ev c 314 1830 [l0, l1, l2, l3, l4, l5, l6, l7] L2 (aI (Op.cmpValue (FP.dcmp x y) .l) :: St) S := ev_go i314_1829 rfl
theorem i314_1830 : insAt 314 1830 = some (.ifCond .eq 11, 3, (0, 0, 0, 0), 0) := rfl
theorem s314_1830 {c : Nat → List AV → SS → Option Out} {l0 l1 l2 l3 l4 l5 l6 l7 : Option AV} {x : Int32} {L2 : List (Nat × AV)} {St : List AV} {S : SS} : ev c 314 1830 [l0, l1, l2, l3, l4, l5, l6, l7] L2 (aI x :: St) S = if x = 0 then ev c 314 1841 [l0, l1, l2, l3, l4, l5, l6, l7] L2 St S else ev c 314 1833 [l0, l1, l2, l3, l4, l5, l6, l7] L2 St S := ev_br i314_1830 rfl
theorem i314_1833 : insAt 314 1833 = some (.fload 7, 2, (0, 0, 0, 0), 0) := rfl
theorem s314_1833 {c : Nat → List AV → SS → Option Out} {l0 l1 l2 l3 l4 l5 l6 : Option AV} {x : UInt32} {L2 : List (Nat × AV)} {St : List AV} {S : SS} : ev c 314 1833 [l0, l1, l2, l3, l4, l5, l6, some (aF x)] L2 St S = ev c 314 1835 [l0, l1, l2, l3, l4, l5, l6, some (aF x)] L2 (aF x :: St) S := ev_go i314_1833 rfl
theorem i314_1835 : insAt 314 1835 = some (.fload 7, 2, (0, 0, 0, 0), 0) := rfl
theorem s314_1835 {c : Nat → List AV → SS → Option Out} {l0 l1 l2 l3 l4 l5 l6 : Option AV} {x : UInt32} {L2 : List (Nat × AV)} {St : List AV} {S : SS} : ev c 314 1835 [l0, l1, l2, l3, l4, l5, l6, some (aF x)] L2 St S = ev c 314 1837 [l0, l1, l2, l3, l4, l5, l6, some (aF x)] L2 (aF x :: St) S := ev_go i314_1835 rfl
theorem i314_1837 : insAt 314 1837 = some (.fcmp .l, 1, (0, 0, 0, 0), 0) := rfl
theorem s314_1837 {c : Nat → List AV → SS → Option Out} {l0 l1 l2 l3 l4 l5 l6 l7 : Option AV} {x y : UInt32} {L2 : List (Nat × AV)} {St : List AV} {S : SS} : ev c 314 1837 [l0, l1, l2, l3, l4, l5, l6, l7] L2 (aF y :: aF x :: St) S = ev c 314 1838 [l0, l1, l2, l3, l4, l5, l6, l7] L2 (aI (Op.cmpValue (FP.fcmp x y) .l) :: St) S := ev_go i314_1837 rfl
theorem i314_1838 : insAt 314 1838 = some (.ifCond .ne 5, 3, (0, 0, 0, 0), 0) := rfl
theorem s314_1838 {c : Nat → List AV → SS → Option Out} {l0 l1 l2 l3 l4 l5 l6 l7 : Option AV} {x : Int32} {L2 : List (Nat × AV)} {St : List AV} {S : SS} : ev c 314 1838 [l0, l1, l2, l3, l4, l5, l6, l7] L2 (aI x :: St) S = if x = 0 then ev c 314 1841 [l0, l1, l2, l3, l4, l5, l6, l7] L2 St S else ev c 314 1843 [l0, l1, l2, l3, l4, l5, l6, l7] L2 St S := (ev_br i314_1838 rfl).trans (ite_not _ _ _)
theorem i314_1841 : insAt 314 1841 = some (.iconst 0, 1, (0, 0, 0, 0), 0) := rfl
theorem s314_1841 {c : Nat → List AV → SS → Option Out} {l0 l1 l2 l3 l4 l5 l6 l7 : Option AV} {L2 : List (Nat × AV)} {St : List AV} {S : SS} : ev c 314 1841 [l0, l1, l2, l3, l4, l5, l6, l7] L2 St S = ev c 314 1842 [l0, l1, l2, l3, l4, l5, l6, l7] L2 (aI 0 :: St) S := ev_go i314_1841 rfl
theorem i314_1842 : insAt 314 1842 = some (.ireturn, 1, (0, 0, 0, 0), 0) := rfl
theorem s314_1842 {c : Nat → List AV → SS → Option Out} {l0 l1 l2 l3 l4 l5 l6 l7 : Option AV} {x : Int32} {L2 : List (Nat × AV)} {St : List AV} {S : SS} : ev c 314 1842 [l0, l1, l2, l3, l4, l5, l6, l7] L2 [aI x] S = if x = 0 ∨ x = 1 then some (.inl (some (aI x)), S) else none := ev_rt i314_1842 rfl
theorem i314_1843 : insAt 314 1843 = some (.goto 956, 3, (0, 0, 0, 0), 0) := rfl
theorem s314_1843 {c : Nat → List AV → SS → Option Out} {l0 l1 l2 l3 l4 l5 l6 l7 : Option AV} {L2 : List (Nat × AV)} {St : List AV} {S : SS} : ev c 314 1843 [l0, l1, l2, l3, l4, l5, l6, l7] L2 St S = ev c 314 2799 [l0, l1, l2, l3, l4, l5, l6, l7] L2 St S := ev_go i314_1843 rfl
theorem i314_1846 : insAt 314 1846 = some (.aload_n 1, 1, (0, 0, 0, 0), 0) := rfl
theorem s314_1846 {c : Nat → List AV → SS → Option Out} {l0 l2 l3 l4 l5 l6 l7 : Option AV} {o : OId} {L2 : List (Nat × AV)} {St : List AV} {S : SS} : ev c 314 1846 [l0, some (aR o), l2, l3, l4, l5, l6, l7] L2 St S = ev c 314 1847 [l0, some (aR o), l2, l3, l4, l5, l6, l7] L2 (aR o :: St) S := ev_go i314_1846 rfl
theorem i314_1847 : insAt 314 1847 = some (.invokevirtual 254, 3, (22, 0, 2, 11), 0) := rfl
theorem s314_1847 {c : Nat → List AV → SS → Option Out} {l0 l1 l2 l3 l4 l5 l6 l7 : Option AV} {j t : Nat} {L2 : List (Nat × AV)} {S : SS} : ev c 314 1847 [l0, l1, l2, l3, l4, l5, l6, l7] L2 [aR (11, j, t)] S = ck (c 22 [aR (11, j, t)] S) (fun v S' => ev c 314 1850 [l0, l1, l2, l3, l4, l5, l6, l7] L2 (v.toList ++ []) S') := ev_call i314_1847 rfl
theorem i314_1850 : insAt 314 1850 = some (.aload_n 2, 1, (0, 0, 0, 0), 0) := rfl
theorem s314_1850 {c : Nat → List AV → SS → Option Out} {l0 l1 l3 l4 l5 l6 l7 : Option AV} {o : OId} {L2 : List (Nat × AV)} {St : List AV} {S : SS} : ev c 314 1850 [l0, l1, some (aR o), l3, l4, l5, l6, l7] L2 St S = ev c 314 1851 [l0, l1, some (aR o), l3, l4, l5, l6, l7] L2 (aR o :: St) S := ev_go i314_1850 rfl
theorem i314_1851 : insAt 314 1851 = some (.invokevirtual 258, 3, (286, 0, 2, 12), 0) := rfl
theorem s314_1851 {c : Nat → List AV → SS → Option Out} {l0 l1 l2 l3 l4 l5 l6 l7 : Option AV} {t0 : AV} {j t : Nat} {L2 : List (Nat × AV)} {S : SS} : ev c 314 1851 [l0, l1, l2, l3, l4, l5, l6, l7] L2 [aR (12, j, t), t0] S = ck (c 286 [aR (12, j, t)] S) (fun v S' => ev c 314 1854 [l0, l1, l2, l3, l4, l5, l6, l7] L2 (v.toList ++ [t0]) S') := ev_call i314_1851 rfl
theorem i314_1854 : insAt 314 1854 = some (.if_icmp .eq 945, 3, (0, 0, 0, 0), 0) := rfl
theorem s314_1854 {c : Nat → List AV → SS → Option Out} {l0 l1 l2 l3 l4 l5 l6 l7 : Option AV} {x y : Int32} {L2 : List (Nat × AV)} {St : List AV} {S : SS} : ev c 314 1854 [l0, l1, l2, l3, l4, l5, l6, l7] L2 (aI y :: aI x :: St) S = if x = y then ev c 314 2799 [l0, l1, l2, l3, l4, l5, l6, l7] L2 St S else ev c 314 1857 [l0, l1, l2, l3, l4, l5, l6, l7] L2 St S := ev_br i314_1854 rfl
theorem i314_1857 : insAt 314 1857 = some (.iconst 0, 1, (0, 0, 0, 0), 0) := rfl
theorem s314_1857 {c : Nat → List AV → SS → Option Out} {l0 l1 l2 l3 l4 l5 l6 l7 : Option AV} {L2 : List (Nat × AV)} {St : List AV} {S : SS} : ev c 314 1857 [l0, l1, l2, l3, l4, l5, l6, l7] L2 St S = ev c 314 1858 [l0, l1, l2, l3, l4, l5, l6, l7] L2 (aI 0 :: St) S := ev_go i314_1857 rfl
theorem i314_1858 : insAt 314 1858 = some (.ireturn, 1, (0, 0, 0, 0), 0) := rfl
theorem s314_1858 {c : Nat → List AV → SS → Option Out} {l0 l1 l2 l3 l4 l5 l6 l7 : Option AV} {x : Int32} {L2 : List (Nat × AV)} {St : List AV} {S : SS} : ev c 314 1858 [l0, l1, l2, l3, l4, l5, l6, l7] L2 [aI x] S = if x = 0 ∨ x = 1 then some (.inl (some (aI x)), S) else none := ev_rt i314_1858 rfl
theorem i314_1859 : insAt 314 1859 = some (.aload_n 1, 1, (0, 0, 0, 0), 0) := rfl
theorem s314_1859 {c : Nat → List AV → SS → Option Out} {l0 l2 l3 l4 l5 l6 l7 : Option AV} {o : OId} {L2 : List (Nat × AV)} {St : List AV} {S : SS} : ev c 314 1859 [l0, some (aR o), l2, l3, l4, l5, l6, l7] L2 St S = ev c 314 1860 [l0, some (aR o), l2, l3, l4, l5, l6, l7] L2 (aR o :: St) S := ev_go i314_1859 rfl
theorem i314_1860 : insAt 314 1860 = some (.aload_n 0, 1, (0, 0, 0, 0), 0) := rfl
theorem s314_1860 {c : Nat → List AV → SS → Option Out} {l1 l2 l3 l4 l5 l6 l7 : Option AV} {o : OId} {L2 : List (Nat × AV)} {St : List AV} {S : SS} : ev c 314 1860 [some (aR o), l1, l2, l3, l4, l5, l6, l7] L2 St S = ev c 314 1861 [some (aR o), l1, l2, l3, l4, l5, l6, l7] L2 (aR o :: St) S := ev_go i314_1860 rfl
theorem i314_1861 : insAt 314 1861 = some (.iload 5, 2, (0, 0, 0, 0), 0) := rfl
theorem s314_1861 {c : Nat → List AV → SS → Option Out} {l0 l1 l2 l3 l4 l6 l7 : Option AV} {x : Int32} {L2 : List (Nat × AV)} {St : List AV} {S : SS} : ev c 314 1861 [l0, l1, l2, l3, l4, some (aI x), l6, l7] L2 St S = ev c 314 1863 [l0, l1, l2, l3, l4, some (aI x), l6, l7] L2 (aI x :: St) S := ev_go i314_1861 rfl
theorem i314_1863 : insAt 314 1863 = some (.iconst 1, 1, (0, 0, 0, 0), 0) := rfl
theorem s314_1863 {c : Nat → List AV → SS → Option Out} {l0 l1 l2 l3 l4 l5 l6 l7 : Option AV} {L2 : List (Nat × AV)} {St : List AV} {S : SS} : ev c 314 1863 [l0, l1, l2, l3, l4, l5, l6, l7] L2 St S = ev c 314 1864 [l0, l1, l2, l3, l4, l5, l6, l7] L2 (aI 1 :: St) S := ev_go i314_1863 rfl
theorem i314_1864 : insAt 314 1864 = some (.iadd, 1, (0, 0, 0, 0), 0) := rfl
theorem s314_1864 {c : Nat → List AV → SS → Option Out} {l0 l1 l2 l3 l4 l5 l6 l7 : Option AV} {x y : Int32} {L2 : List (Nat × AV)} {St : List AV} {S : SS} : ev c 314 1864 [l0, l1, l2, l3, l4, l5, l6, l7] L2 (aI y :: aI x :: St) S = ev c 314 1865 [l0, l1, l2, l3, l4, l5, l6, l7] L2 (aI (x + y) :: St) S := ev_go i314_1864 rfl
theorem i314_1865 : insAt 314 1865 = some (.iaload, 1, (0, 0, 0, 0), 0) := rfl
theorem s314_1865 {c : Nat → List AV → SS → Option Out} {l0 l1 l2 l3 l4 l5 l6 l7 : Option AV} {i : Int32} {o : OId} {L2 : List (Nat × AV)} {St : List AV} {S : SS} : ev c 314 1865 [l0, l1, l2, l3, l4, l5, l6, l7] L2 (aI i :: aR o :: St) S = kI o i (ev c 314 1866 [l0, l1, l2, l3, l4, l5, l6, l7] L2 (aI (agI S o i.toNatClampNeg) :: St) S) := ev_iaload i314_1865
theorem i314_1866 : insAt 314 1866 = some (.aload_n 0, 1, (0, 0, 0, 0), 0) := rfl
theorem s314_1866 {c : Nat → List AV → SS → Option Out} {l1 l2 l3 l4 l5 l6 l7 : Option AV} {o : OId} {L2 : List (Nat × AV)} {St : List AV} {S : SS} : ev c 314 1866 [some (aR o), l1, l2, l3, l4, l5, l6, l7] L2 St S = ev c 314 1867 [some (aR o), l1, l2, l3, l4, l5, l6, l7] L2 (aR o :: St) S := ev_go i314_1866 rfl
theorem i314_1867 : insAt 314 1867 = some (.iload 5, 2, (0, 0, 0, 0), 0) := rfl
theorem s314_1867 {c : Nat → List AV → SS → Option Out} {l0 l1 l2 l3 l4 l6 l7 : Option AV} {x : Int32} {L2 : List (Nat × AV)} {St : List AV} {S : SS} : ev c 314 1867 [l0, l1, l2, l3, l4, some (aI x), l6, l7] L2 St S = ev c 314 1869 [l0, l1, l2, l3, l4, some (aI x), l6, l7] L2 (aI x :: St) S := ev_go i314_1867 rfl
theorem i314_1869 : insAt 314 1869 = some (.iconst 2, 1, (0, 0, 0, 0), 0) := rfl
theorem s314_1869 {c : Nat → List AV → SS → Option Out} {l0 l1 l2 l3 l4 l5 l6 l7 : Option AV} {L2 : List (Nat × AV)} {St : List AV} {S : SS} : ev c 314 1869 [l0, l1, l2, l3, l4, l5, l6, l7] L2 St S = ev c 314 1870 [l0, l1, l2, l3, l4, l5, l6, l7] L2 (aI 2 :: St) S := ev_go i314_1869 rfl
theorem i314_1870 : insAt 314 1870 = some (.iadd, 1, (0, 0, 0, 0), 0) := rfl
theorem s314_1870 {c : Nat → List AV → SS → Option Out} {l0 l1 l2 l3 l4 l5 l6 l7 : Option AV} {x y : Int32} {L2 : List (Nat × AV)} {St : List AV} {S : SS} : ev c 314 1870 [l0, l1, l2, l3, l4, l5, l6, l7] L2 (aI y :: aI x :: St) S = ev c 314 1871 [l0, l1, l2, l3, l4, l5, l6, l7] L2 (aI (x + y) :: St) S := ev_go i314_1870 rfl
theorem i314_1871 : insAt 314 1871 = some (.iaload, 1, (0, 0, 0, 0), 0) := rfl
theorem s314_1871 {c : Nat → List AV → SS → Option Out} {l0 l1 l2 l3 l4 l5 l6 l7 : Option AV} {i : Int32} {o : OId} {L2 : List (Nat × AV)} {St : List AV} {S : SS} : ev c 314 1871 [l0, l1, l2, l3, l4, l5, l6, l7] L2 (aI i :: aR o :: St) S = kI o i (ev c 314 1872 [l0, l1, l2, l3, l4, l5, l6, l7] L2 (aI (agI S o i.toNatClampNeg) :: St) S) := ev_iaload i314_1871
theorem i314_1872 : insAt 314 1872 = some (.aload_n 3, 1, (0, 0, 0, 0), 0) := rfl
theorem s314_1872 {c : Nat → List AV → SS → Option Out} {l0 l1 l2 l4 l5 l6 l7 : Option AV} {o : OId} {L2 : List (Nat × AV)} {St : List AV} {S : SS} : ev c 314 1872 [l0, l1, l2, some (aR o), l4, l5, l6, l7] L2 St S = ev c 314 1873 [l0, l1, l2, some (aR o), l4, l5, l6, l7] L2 (aR o :: St) S := ev_go i314_1872 rfl
theorem i314_1873 : insAt 314 1873 = some (.invokestatic 259, 3, (139, 4, 0, 0), 0) := rfl
theorem s314_1873 {c : Nat → List AV → SS → Option Out} {l0 l1 l2 l3 l4 l5 l6 l7 : Option AV} {a0 : OId} {a1 : Int32} {a2 : Int32} {a3 : OId} {L2 : List (Nat × AV)} {S : SS} : ev c 314 1873 [l0, l1, l2, l3, l4, l5, l6, l7] L2 [aR a3, aI a2, aI a1, aR a0] S = ck (c 139 [aR a0, aI a1, aI a2, aR a3] S) (fun v S' => ev c 314 1876 [l0, l1, l2, l3, l4, l5, l6, l7] L2 (v.toList ++ []) S') := ev_call i314_1873 rfl
theorem i314_1876 : insAt 314 1876 = some (.istore 6, 2, (0, 0, 0, 0), 0) := rfl
theorem s314_1876 {c : Nat → List AV → SS → Option Out} {l0 l1 l2 l3 l4 l5 l6 l7 : Option AV} {x : Int32} {L2 : List (Nat × AV)} {St : List AV} {S : SS} : ev c 314 1876 [l0, l1, l2, l3, l4, l5, l6, l7] L2 (aI x :: St) S = ev c 314 1878 [l0, l1, l2, l3, l4, l5, some (aI x), l7] (kil L2 6) St S := ev_go i314_1876 rfl
theorem i314_1878 : insAt 314 1878 = some (.aload_n 2, 1, (0, 0, 0, 0), 0) := rfl
theorem s314_1878 {c : Nat → List AV → SS → Option Out} {l0 l1 l3 l4 l5 l6 l7 : Option AV} {o : OId} {L2 : List (Nat × AV)} {St : List AV} {S : SS} : ev c 314 1878 [l0, l1, some (aR o), l3, l4, l5, l6, l7] L2 St S = ev c 314 1879 [l0, l1, some (aR o), l3, l4, l5, l6, l7] L2 (aR o :: St) S := ev_go i314_1878 rfl
theorem i314_1879 : insAt 314 1879 = some (.aload_n 0, 1, (0, 0, 0, 0), 0) := rfl
theorem s314_1879 {c : Nat → List AV → SS → Option Out} {l1 l2 l3 l4 l5 l6 l7 : Option AV} {o : OId} {L2 : List (Nat × AV)} {St : List AV} {S : SS} : ev c 314 1879 [some (aR o), l1, l2, l3, l4, l5, l6, l7] L2 St S = ev c 314 1880 [some (aR o), l1, l2, l3, l4, l5, l6, l7] L2 (aR o :: St) S := ev_go i314_1879 rfl
theorem i314_1880 : insAt 314 1880 = some (.iload 5, 2, (0, 0, 0, 0), 0) := rfl
theorem s314_1880 {c : Nat → List AV → SS → Option Out} {l0 l1 l2 l3 l4 l6 l7 : Option AV} {x : Int32} {L2 : List (Nat × AV)} {St : List AV} {S : SS} : ev c 314 1880 [l0, l1, l2, l3, l4, some (aI x), l6, l7] L2 St S = ev c 314 1882 [l0, l1, l2, l3, l4, some (aI x), l6, l7] L2 (aI x :: St) S := ev_go i314_1880 rfl
theorem i314_1882 : insAt 314 1882 = some (.iconst 1, 1, (0, 0, 0, 0), 0) := rfl
theorem s314_1882 {c : Nat → List AV → SS → Option Out} {l0 l1 l2 l3 l4 l5 l6 l7 : Option AV} {L2 : List (Nat × AV)} {St : List AV} {S : SS} : ev c 314 1882 [l0, l1, l2, l3, l4, l5, l6, l7] L2 St S = ev c 314 1883 [l0, l1, l2, l3, l4, l5, l6, l7] L2 (aI 1 :: St) S := ev_go i314_1882 rfl
theorem i314_1883 : insAt 314 1883 = some (.iadd, 1, (0, 0, 0, 0), 0) := rfl
theorem s314_1883 {c : Nat → List AV → SS → Option Out} {l0 l1 l2 l3 l4 l5 l6 l7 : Option AV} {x y : Int32} {L2 : List (Nat × AV)} {St : List AV} {S : SS} : ev c 314 1883 [l0, l1, l2, l3, l4, l5, l6, l7] L2 (aI y :: aI x :: St) S = ev c 314 1884 [l0, l1, l2, l3, l4, l5, l6, l7] L2 (aI (x + y) :: St) S := ev_go i314_1883 rfl
theorem i314_1884 : insAt 314 1884 = some (.iaload, 1, (0, 0, 0, 0), 0) := rfl
theorem s314_1884 {c : Nat → List AV → SS → Option Out} {l0 l1 l2 l3 l4 l5 l6 l7 : Option AV} {i : Int32} {o : OId} {L2 : List (Nat × AV)} {St : List AV} {S : SS} : ev c 314 1884 [l0, l1, l2, l3, l4, l5, l6, l7] L2 (aI i :: aR o :: St) S = kI o i (ev c 314 1885 [l0, l1, l2, l3, l4, l5, l6, l7] L2 (aI (agI S o i.toNatClampNeg) :: St) S) := ev_iaload i314_1884
theorem i314_1885 : insAt 314 1885 = some (.aload_n 0, 1, (0, 0, 0, 0), 0) := rfl
theorem s314_1885 {c : Nat → List AV → SS → Option Out} {l1 l2 l3 l4 l5 l6 l7 : Option AV} {o : OId} {L2 : List (Nat × AV)} {St : List AV} {S : SS} : ev c 314 1885 [some (aR o), l1, l2, l3, l4, l5, l6, l7] L2 St S = ev c 314 1886 [some (aR o), l1, l2, l3, l4, l5, l6, l7] L2 (aR o :: St) S := ev_go i314_1885 rfl
theorem i314_1886 : insAt 314 1886 = some (.iload 5, 2, (0, 0, 0, 0), 0) := rfl
theorem s314_1886 {c : Nat → List AV → SS → Option Out} {l0 l1 l2 l3 l4 l6 l7 : Option AV} {x : Int32} {L2 : List (Nat × AV)} {St : List AV} {S : SS} : ev c 314 1886 [l0, l1, l2, l3, l4, some (aI x), l6, l7] L2 St S = ev c 314 1888 [l0, l1, l2, l3, l4, some (aI x), l6, l7] L2 (aI x :: St) S := ev_go i314_1886 rfl
theorem i314_1888 : insAt 314 1888 = some (.iconst 2, 1, (0, 0, 0, 0), 0) := rfl
theorem s314_1888 {c : Nat → List AV → SS → Option Out} {l0 l1 l2 l3 l4 l5 l6 l7 : Option AV} {L2 : List (Nat × AV)} {St : List AV} {S : SS} : ev c 314 1888 [l0, l1, l2, l3, l4, l5, l6, l7] L2 St S = ev c 314 1889 [l0, l1, l2, l3, l4, l5, l6, l7] L2 (aI 2 :: St) S := ev_go i314_1888 rfl
theorem i314_1889 : insAt 314 1889 = some (.iadd, 1, (0, 0, 0, 0), 0) := rfl
theorem s314_1889 {c : Nat → List AV → SS → Option Out} {l0 l1 l2 l3 l4 l5 l6 l7 : Option AV} {x y : Int32} {L2 : List (Nat × AV)} {St : List AV} {S : SS} : ev c 314 1889 [l0, l1, l2, l3, l4, l5, l6, l7] L2 (aI y :: aI x :: St) S = ev c 314 1890 [l0, l1, l2, l3, l4, l5, l6, l7] L2 (aI (x + y) :: St) S := ev_go i314_1889 rfl
theorem i314_1890 : insAt 314 1890 = some (.iaload, 1, (0, 0, 0, 0), 0) := rfl
theorem s314_1890 {c : Nat → List AV → SS → Option Out} {l0 l1 l2 l3 l4 l5 l6 l7 : Option AV} {i : Int32} {o : OId} {L2 : List (Nat × AV)} {St : List AV} {S : SS} : ev c 314 1890 [l0, l1, l2, l3, l4, l5, l6, l7] L2 (aI i :: aR o :: St) S = kI o i (ev c 314 1891 [l0, l1, l2, l3, l4, l5, l6, l7] L2 (aI (agI S o i.toNatClampNeg) :: St) S) := ev_iaload i314_1890
theorem i314_1891 : insAt 314 1891 = some (.invokevirtual 261, 3, (287, 2, 2, 12), 0) := rfl
theorem s314_1891 {c : Nat → List AV → SS → Option Out} {l0 l1 l2 l3 l4 l5 l6 l7 : Option AV} {a0 : Int32} {a1 : Int32} {j t : Nat} {L2 : List (Nat × AV)} {S : SS} : ev c 314 1891 [l0, l1, l2, l3, l4, l5, l6, l7] L2 [aI a1, aI a0, aR (12, j, t)] S = ck (c 287 [aR (12, j, t), aI a0, aI a1] S) (fun v S' => ev c 314 1894 [l0, l1, l2, l3, l4, l5, l6, l7] L2 (v.toList ++ []) S') := ev_call i314_1891 rfl
theorem i314_1894 : insAt 314 1894 = some (.istore 7, 2, (0, 0, 0, 0), 0) := rfl
theorem s314_1894 {c : Nat → List AV → SS → Option Out} {l0 l1 l2 l3 l4 l5 l6 l7 : Option AV} {x : Int32} {L2 : List (Nat × AV)} {St : List AV} {S : SS} : ev c 314 1894 [l0, l1, l2, l3, l4, l5, l6, l7] L2 (aI x :: St) S = ev c 314 1896 [l0, l1, l2, l3, l4, l5, l6, some (aI x)] (kil L2 7) St S := ev_go i314_1894 rfl
theorem i314_1896 : insAt 314 1896 = some (.aload_n 2, 1, (0, 0, 0, 0), 0) := rfl
theorem s314_1896 {c : Nat → List AV → SS → Option Out} {l0 l1 l3 l4 l5 l6 l7 : Option AV} {o : OId} {L2 : List (Nat × AV)} {St : List AV} {S : SS} : ev c 314 1896 [l0, l1, some (aR o), l3, l4, l5, l6, l7] L2 St S = ev c 314 1897 [l0, l1, some (aR o), l3, l4, l5, l6, l7] L2 (aR o :: St) S := ev_go i314_1896 rfl
theorem i314_1897 : insAt 314 1897 = some (.invokevirtual 149, 3, (218, 0, 2, 12), 0) := rfl
theorem s314_1897 {c : Nat → List AV → SS → Option Out} {l0 l1 l2 l3 l4 l5 l6 l7 : Option AV} {j t : Nat} {L2 : List (Nat × AV)} {S : SS} : ev c 314 1897 [l0, l1, l2, l3, l4, l5, l6, l7] L2 [aR (12, j, t)] S = ck (c 218 [aR (12, j, t)] S) (fun v S' => ev c 314 1900 [l0, l1, l2, l3, l4, l5, l6, l7] L2 (v.toList ++ []) S') := ev_call i314_1897 rfl
theorem i314_1900 : insAt 314 1900 = some (.iload 6, 2, (0, 0, 0, 0), 0) := rfl
theorem s314_1900 {c : Nat → List AV → SS → Option Out} {l0 l1 l2 l3 l4 l5 l7 : Option AV} {x : Int32} {L2 : List (Nat × AV)} {St : List AV} {S : SS} : ev c 314 1900 [l0, l1, l2, l3, l4, l5, some (aI x), l7] L2 St S = ev c 314 1902 [l0, l1, l2, l3, l4, l5, some (aI x), l7] L2 (aI x :: St) S := ev_go i314_1900 rfl
theorem i314_1902 : insAt 314 1902 = some (.if_icmp .eq 5, 3, (0, 0, 0, 0), 0) := rfl
theorem s314_1902 {c : Nat → List AV → SS → Option Out} {l0 l1 l2 l3 l4 l5 l6 l7 : Option AV} {x y : Int32} {L2 : List (Nat × AV)} {St : List AV} {S : SS} : ev c 314 1902 [l0, l1, l2, l3, l4, l5, l6, l7] L2 (aI y :: aI x :: St) S = if x = y then ev c 314 1907 [l0, l1, l2, l3, l4, l5, l6, l7] L2 St S else ev c 314 1905 [l0, l1, l2, l3, l4, l5, l6, l7] L2 St S := ev_br i314_1902 rfl
theorem i314_1905 : insAt 314 1905 = some (.iconst 0, 1, (0, 0, 0, 0), 0) := rfl
theorem s314_1905 {c : Nat → List AV → SS → Option Out} {l0 l1 l2 l3 l4 l5 l6 l7 : Option AV} {L2 : List (Nat × AV)} {St : List AV} {S : SS} : ev c 314 1905 [l0, l1, l2, l3, l4, l5, l6, l7] L2 St S = ev c 314 1906 [l0, l1, l2, l3, l4, l5, l6, l7] L2 (aI 0 :: St) S := ev_go i314_1905 rfl
theorem i314_1906 : insAt 314 1906 = some (.ireturn, 1, (0, 0, 0, 0), 0) := rfl
theorem s314_1906 {c : Nat → List AV → SS → Option Out} {l0 l1 l2 l3 l4 l5 l6 l7 : Option AV} {x : Int32} {L2 : List (Nat × AV)} {St : List AV} {S : SS} : ev c 314 1906 [l0, l1, l2, l3, l4, l5, l6, l7] L2 [aI x] S = if x = 0 ∨ x = 1 then some (.inl (some (aI x)), S) else none := ev_rt i314_1906 rfl
theorem i314_1907 : insAt 314 1907 = some (.iload 6, 2, (0, 0, 0, 0), 0) := rfl
theorem s314_1907 {c : Nat → List AV → SS → Option Out} {l0 l1 l2 l3 l4 l5 l7 : Option AV} {x : Int32} {L2 : List (Nat × AV)} {St : List AV} {S : SS} : ev c 314 1907 [l0, l1, l2, l3, l4, l5, some (aI x), l7] L2 St S = ev c 314 1909 [l0, l1, l2, l3, l4, l5, some (aI x), l7] L2 (aI x :: St) S := ev_go i314_1907 rfl
theorem i314_1909 : insAt 314 1909 = some (.ifCond .ne 15, 3, (0, 0, 0, 0), 0) := rfl
theorem s314_1909 {c : Nat → List AV → SS → Option Out} {l0 l1 l2 l3 l4 l5 l6 l7 : Option AV} {x : Int32} {L2 : List (Nat × AV)} {St : List AV} {S : SS} : ev c 314 1909 [l0, l1, l2, l3, l4, l5, l6, l7] L2 (aI x :: St) S = if x = 0 then ev c 314 1912 [l0, l1, l2, l3, l4, l5, l6, l7] L2 St S else ev c 314 1924 [l0, l1, l2, l3, l4, l5, l6, l7] L2 St S := (ev_br i314_1909 rfl).trans (ite_not _ _ _)
theorem i314_1912 : insAt 314 1912 = some (.aload_n 3, 1, (0, 0, 0, 0), 0) := rfl
theorem s314_1912 {c : Nat → List AV → SS → Option Out} {l0 l1 l2 l4 l5 l6 l7 : Option AV} {o : OId} {L2 : List (Nat × AV)} {St : List AV} {S : SS} : ev c 314 1912 [l0, l1, l2, some (aR o), l4, l5, l6, l7] L2 St S = ev c 314 1913 [l0, l1, l2, some (aR o), l4, l5, l6, l7] L2 (aR o :: St) S := ev_go i314_1912 rfl
theorem i314_1913 : insAt 314 1913 = some (.iconst 0, 1, (0, 0, 0, 0), 0) := rfl
theorem s314_1913 {c : Nat → List AV → SS → Option Out} {l0 l1 l2 l3 l4 l5 l6 l7 : Option AV} {L2 : List (Nat × AV)} {St : List AV} {S : SS} : ev c 314 1913 [l0, l1, l2, l3, l4, l5, l6, l7] L2 St S = ev c 314 1914 [l0, l1, l2, l3, l4, l5, l6, l7] L2 (aI 0 :: St) S := ev_go i314_1913 rfl
theorem i314_1914 : insAt 314 1914 = some (.laload, 1, (0, 0, 0, 0), 0) := rfl
theorem s314_1914 {c : Nat → List AV → SS → Option Out} {l0 l1 l2 l3 l4 l5 l6 l7 : Option AV} {i : Int32} {o : OId} {L2 : List (Nat × AV)} {St : List AV} {S : SS} : ev c 314 1914 [l0, l1, l2, l3, l4, l5, l6, l7] L2 (aI i :: aR o :: St) S = kJ o i (ev c 314 1915 [l0, l1, l2, l3, l4, l5, l6, l7] L2 (aL (toL (S.2.1 o i.toNatClampNeg)) :: St) S) := ev_laload i314_1914
theorem i314_1915 : insAt 314 1915 = some (.iload 7, 2, (0, 0, 0, 0), 0) := rfl
theorem s314_1915 {c : Nat → List AV → SS → Option Out} {l0 l1 l2 l3 l4 l5 l6 : Option AV} {x : Int32} {L2 : List (Nat × AV)} {St : List AV} {S : SS} : ev c 314 1915 [l0, l1, l2, l3, l4, l5, l6, some (aI x)] L2 St S = ev c 314 1917 [l0, l1, l2, l3, l4, l5, l6, some (aI x)] L2 (aI x :: St) S := ev_go i314_1915 rfl
theorem i314_1917 : insAt 314 1917 = some (.i2l, 1, (0, 0, 0, 0), 0) := rfl
theorem s314_1917 {c : Nat → List AV → SS → Option Out} {l0 l1 l2 l3 l4 l5 l6 l7 : Option AV} {x : Int32} {L2 : List (Nat × AV)} {St : List AV} {S : SS} : ev c 314 1917 [l0, l1, l2, l3, l4, l5, l6, l7] L2 (aI x :: St) S = ev c 314 1918 [l0, l1, l2, l3, l4, l5, l6, l7] L2 (aL x.toInt64 :: St) S := ev_go i314_1917 rfl
theorem i314_1918 : insAt 314 1918 = some (.lcmp, 1, (0, 0, 0, 0), 0) := rfl
theorem s314_1918 {c : Nat → List AV → SS → Option Out} {l0 l1 l2 l3 l4 l5 l6 l7 : Option AV} {x y : Int64} {L2 : List (Nat × AV)} {St : List AV} {S : SS} : ev c 314 1918 [l0, l1, l2, l3, l4, l5, l6, l7] L2 (aL y :: aL x :: St) S = ev c 314 1919 [l0, l1, l2, l3, l4, l5, l6, l7] L2 (aI (if x < y then -1 else if x = y then 0 else 1) :: St) S := ev_go i314_1918 rfl
theorem i314_1919 : insAt 314 1919 = some (.ifCond .eq 5, 3, (0, 0, 0, 0), 0) := rfl
theorem s314_1919 {c : Nat → List AV → SS → Option Out} {l0 l1 l2 l3 l4 l5 l6 l7 : Option AV} {x : Int32} {L2 : List (Nat × AV)} {St : List AV} {S : SS} : ev c 314 1919 [l0, l1, l2, l3, l4, l5, l6, l7] L2 (aI x :: St) S = if x = 0 then ev c 314 1924 [l0, l1, l2, l3, l4, l5, l6, l7] L2 St S else ev c 314 1922 [l0, l1, l2, l3, l4, l5, l6, l7] L2 St S := ev_br i314_1919 rfl
theorem i314_1922 : insAt 314 1922 = some (.iconst 0, 1, (0, 0, 0, 0), 0) := rfl
theorem s314_1922 {c : Nat → List AV → SS → Option Out} {l0 l1 l2 l3 l4 l5 l6 l7 : Option AV} {L2 : List (Nat × AV)} {St : List AV} {S : SS} : ev c 314 1922 [l0, l1, l2, l3, l4, l5, l6, l7] L2 St S = ev c 314 1923 [l0, l1, l2, l3, l4, l5, l6, l7] L2 (aI 0 :: St) S := ev_go i314_1922 rfl
theorem i314_1923 : insAt 314 1923 = some (.ireturn, 1, (0, 0, 0, 0), 0) := rfl
theorem s314_1923 {c : Nat → List AV → SS → Option Out} {l0 l1 l2 l3 l4 l5 l6 l7 : Option AV} {x : Int32} {L2 : List (Nat × AV)} {St : List AV} {S : SS} : ev c 314 1923 [l0, l1, l2, l3, l4, l5, l6, l7] L2 [aI x] S = if x = 0 ∨ x = 1 then some (.inl (some (aI x)), S) else none := ev_rt i314_1923 rfl
theorem i314_1924 : insAt 314 1924 = some (.goto 875, 3, (0, 0, 0, 0), 0) := rfl
theorem s314_1924 {c : Nat → List AV → SS → Option Out} {l0 l1 l2 l3 l4 l5 l6 l7 : Option AV} {L2 : List (Nat × AV)} {St : List AV} {S : SS} : ev c 314 1924 [l0, l1, l2, l3, l4, l5, l6, l7] L2 St S = ev c 314 2799 [l0, l1, l2, l3, l4, l5, l6, l7] L2 St S := ev_go i314_1924 rfl
theorem i314_1927 : insAt 314 1927 = some (.aload_n 1, 1, (0, 0, 0, 0), 0) := rfl
theorem s314_1927 {c : Nat → List AV → SS → Option Out} {l0 l2 l3 l4 l5 l6 l7 : Option AV} {o : OId} {L2 : List (Nat × AV)} {St : List AV} {S : SS} : ev c 314 1927 [l0, some (aR o), l2, l3, l4, l5, l6, l7] L2 St S = ev c 314 1928 [l0, some (aR o), l2, l3, l4, l5, l6, l7] L2 (aR o :: St) S := ev_go i314_1927 rfl
theorem i314_1928 : insAt 314 1928 = some (.aload_n 0, 1, (0, 0, 0, 0), 0) := rfl
theorem s314_1928 {c : Nat → List AV → SS → Option Out} {l1 l2 l3 l4 l5 l6 l7 : Option AV} {o : OId} {L2 : List (Nat × AV)} {St : List AV} {S : SS} : ev c 314 1928 [some (aR o), l1, l2, l3, l4, l5, l6, l7] L2 St S = ev c 314 1929 [some (aR o), l1, l2, l3, l4, l5, l6, l7] L2 (aR o :: St) S := ev_go i314_1928 rfl
theorem i314_1929 : insAt 314 1929 = some (.iload 5, 2, (0, 0, 0, 0), 0) := rfl
theorem s314_1929 {c : Nat → List AV → SS → Option Out} {l0 l1 l2 l3 l4 l6 l7 : Option AV} {x : Int32} {L2 : List (Nat × AV)} {St : List AV} {S : SS} : ev c 314 1929 [l0, l1, l2, l3, l4, some (aI x), l6, l7] L2 St S = ev c 314 1931 [l0, l1, l2, l3, l4, some (aI x), l6, l7] L2 (aI x :: St) S := ev_go i314_1929 rfl
theorem i314_1931 : insAt 314 1931 = some (.iconst 1, 1, (0, 0, 0, 0), 0) := rfl
theorem s314_1931 {c : Nat → List AV → SS → Option Out} {l0 l1 l2 l3 l4 l5 l6 l7 : Option AV} {L2 : List (Nat × AV)} {St : List AV} {S : SS} : ev c 314 1931 [l0, l1, l2, l3, l4, l5, l6, l7] L2 St S = ev c 314 1932 [l0, l1, l2, l3, l4, l5, l6, l7] L2 (aI 1 :: St) S := ev_go i314_1931 rfl
theorem i314_1932 : insAt 314 1932 = some (.iadd, 1, (0, 0, 0, 0), 0) := rfl
theorem s314_1932 {c : Nat → List AV → SS → Option Out} {l0 l1 l2 l3 l4 l5 l6 l7 : Option AV} {x y : Int32} {L2 : List (Nat × AV)} {St : List AV} {S : SS} : ev c 314 1932 [l0, l1, l2, l3, l4, l5, l6, l7] L2 (aI y :: aI x :: St) S = ev c 314 1933 [l0, l1, l2, l3, l4, l5, l6, l7] L2 (aI (x + y) :: St) S := ev_go i314_1932 rfl
theorem i314_1933 : insAt 314 1933 = some (.iaload, 1, (0, 0, 0, 0), 0) := rfl
theorem s314_1933 {c : Nat → List AV → SS → Option Out} {l0 l1 l2 l3 l4 l5 l6 l7 : Option AV} {i : Int32} {o : OId} {L2 : List (Nat × AV)} {St : List AV} {S : SS} : ev c 314 1933 [l0, l1, l2, l3, l4, l5, l6, l7] L2 (aI i :: aR o :: St) S = kI o i (ev c 314 1934 [l0, l1, l2, l3, l4, l5, l6, l7] L2 (aI (agI S o i.toNatClampNeg) :: St) S) := ev_iaload i314_1933
theorem i314_1934 : insAt 314 1934 = some (.aload_n 0, 1, (0, 0, 0, 0), 0) := rfl
theorem s314_1934 {c : Nat → List AV → SS → Option Out} {l1 l2 l3 l4 l5 l6 l7 : Option AV} {o : OId} {L2 : List (Nat × AV)} {St : List AV} {S : SS} : ev c 314 1934 [some (aR o), l1, l2, l3, l4, l5, l6, l7] L2 St S = ev c 314 1935 [some (aR o), l1, l2, l3, l4, l5, l6, l7] L2 (aR o :: St) S := ev_go i314_1934 rfl
theorem i314_1935 : insAt 314 1935 = some (.iload 5, 2, (0, 0, 0, 0), 0) := rfl
theorem s314_1935 {c : Nat → List AV → SS → Option Out} {l0 l1 l2 l3 l4 l6 l7 : Option AV} {x : Int32} {L2 : List (Nat × AV)} {St : List AV} {S : SS} : ev c 314 1935 [l0, l1, l2, l3, l4, some (aI x), l6, l7] L2 St S = ev c 314 1937 [l0, l1, l2, l3, l4, some (aI x), l6, l7] L2 (aI x :: St) S := ev_go i314_1935 rfl
theorem i314_1937 : insAt 314 1937 = some (.iconst 2, 1, (0, 0, 0, 0), 0) := rfl
theorem s314_1937 {c : Nat → List AV → SS → Option Out} {l0 l1 l2 l3 l4 l5 l6 l7 : Option AV} {L2 : List (Nat × AV)} {St : List AV} {S : SS} : ev c 314 1937 [l0, l1, l2, l3, l4, l5, l6, l7] L2 St S = ev c 314 1938 [l0, l1, l2, l3, l4, l5, l6, l7] L2 (aI 2 :: St) S := ev_go i314_1937 rfl
theorem i314_1938 : insAt 314 1938 = some (.iadd, 1, (0, 0, 0, 0), 0) := rfl
theorem s314_1938 {c : Nat → List AV → SS → Option Out} {l0 l1 l2 l3 l4 l5 l6 l7 : Option AV} {x y : Int32} {L2 : List (Nat × AV)} {St : List AV} {S : SS} : ev c 314 1938 [l0, l1, l2, l3, l4, l5, l6, l7] L2 (aI y :: aI x :: St) S = ev c 314 1939 [l0, l1, l2, l3, l4, l5, l6, l7] L2 (aI (x + y) :: St) S := ev_go i314_1938 rfl
theorem i314_1939 : insAt 314 1939 = some (.iaload, 1, (0, 0, 0, 0), 0) := rfl
theorem s314_1939 {c : Nat → List AV → SS → Option Out} {l0 l1 l2 l3 l4 l5 l6 l7 : Option AV} {i : Int32} {o : OId} {L2 : List (Nat × AV)} {St : List AV} {S : SS} : ev c 314 1939 [l0, l1, l2, l3, l4, l5, l6, l7] L2 (aI i :: aR o :: St) S = kI o i (ev c 314 1940 [l0, l1, l2, l3, l4, l5, l6, l7] L2 (aI (agI S o i.toNatClampNeg) :: St) S) := ev_iaload i314_1939
theorem i314_1940 : insAt 314 1940 = some (.aload_n 3, 1, (0, 0, 0, 0), 0) := rfl
theorem s314_1940 {c : Nat → List AV → SS → Option Out} {l0 l1 l2 l4 l5 l6 l7 : Option AV} {o : OId} {L2 : List (Nat × AV)} {St : List AV} {S : SS} : ev c 314 1940 [l0, l1, l2, some (aR o), l4, l5, l6, l7] L2 St S = ev c 314 1941 [l0, l1, l2, some (aR o), l4, l5, l6, l7] L2 (aR o :: St) S := ev_go i314_1940 rfl
theorem i314_1941 : insAt 314 1941 = some (.invokestatic 262, 3, (141, 4, 0, 0), 0) := rfl
theorem s314_1941 {c : Nat → List AV → SS → Option Out} {l0 l1 l2 l3 l4 l5 l6 l7 : Option AV} {a0 : OId} {a1 : Int32} {a2 : Int32} {a3 : OId} {L2 : List (Nat × AV)} {S : SS} : ev c 314 1941 [l0, l1, l2, l3, l4, l5, l6, l7] L2 [aR a3, aI a2, aI a1, aR a0] S = ck (c 141 [aR a0, aI a1, aI a2, aR a3] S) (fun v S' => ev c 314 1944 [l0, l1, l2, l3, l4, l5, l6, l7] L2 (v.toList ++ []) S') := ev_call i314_1941 rfl
theorem i314_1944 : insAt 314 1944 = some (.istore 6, 2, (0, 0, 0, 0), 0) := rfl
theorem s314_1944 {c : Nat → List AV → SS → Option Out} {l0 l1 l2 l3 l4 l5 l6 l7 : Option AV} {x : Int32} {L2 : List (Nat × AV)} {St : List AV} {S : SS} : ev c 314 1944 [l0, l1, l2, l3, l4, l5, l6, l7] L2 (aI x :: St) S = ev c 314 1946 [l0, l1, l2, l3, l4, l5, some (aI x), l7] (kil L2 6) St S := ev_go i314_1944 rfl
theorem i314_1946 : insAt 314 1946 = some (.aload_n 2, 1, (0, 0, 0, 0), 0) := rfl
theorem s314_1946 {c : Nat → List AV → SS → Option Out} {l0 l1 l3 l4 l5 l6 l7 : Option AV} {o : OId} {L2 : List (Nat × AV)} {St : List AV} {S : SS} : ev c 314 1946 [l0, l1, some (aR o), l3, l4, l5, l6, l7] L2 St S = ev c 314 1947 [l0, l1, some (aR o), l3, l4, l5, l6, l7] L2 (aR o :: St) S := ev_go i314_1946 rfl
theorem i314_1947 : insAt 314 1947 = some (.aload_n 0, 1, (0, 0, 0, 0), 0) := rfl
theorem s314_1947 {c : Nat → List AV → SS → Option Out} {l1 l2 l3 l4 l5 l6 l7 : Option AV} {o : OId} {L2 : List (Nat × AV)} {St : List AV} {S : SS} : ev c 314 1947 [some (aR o), l1, l2, l3, l4, l5, l6, l7] L2 St S = ev c 314 1948 [some (aR o), l1, l2, l3, l4, l5, l6, l7] L2 (aR o :: St) S := ev_go i314_1947 rfl
theorem i314_1948 : insAt 314 1948 = some (.iload 5, 2, (0, 0, 0, 0), 0) := rfl
theorem s314_1948 {c : Nat → List AV → SS → Option Out} {l0 l1 l2 l3 l4 l6 l7 : Option AV} {x : Int32} {L2 : List (Nat × AV)} {St : List AV} {S : SS} : ev c 314 1948 [l0, l1, l2, l3, l4, some (aI x), l6, l7] L2 St S = ev c 314 1950 [l0, l1, l2, l3, l4, some (aI x), l6, l7] L2 (aI x :: St) S := ev_go i314_1948 rfl
theorem i314_1950 : insAt 314 1950 = some (.iconst 1, 1, (0, 0, 0, 0), 0) := rfl
theorem s314_1950 {c : Nat → List AV → SS → Option Out} {l0 l1 l2 l3 l4 l5 l6 l7 : Option AV} {L2 : List (Nat × AV)} {St : List AV} {S : SS} : ev c 314 1950 [l0, l1, l2, l3, l4, l5, l6, l7] L2 St S = ev c 314 1951 [l0, l1, l2, l3, l4, l5, l6, l7] L2 (aI 1 :: St) S := ev_go i314_1950 rfl
theorem i314_1951 : insAt 314 1951 = some (.iadd, 1, (0, 0, 0, 0), 0) := rfl
theorem s314_1951 {c : Nat → List AV → SS → Option Out} {l0 l1 l2 l3 l4 l5 l6 l7 : Option AV} {x y : Int32} {L2 : List (Nat × AV)} {St : List AV} {S : SS} : ev c 314 1951 [l0, l1, l2, l3, l4, l5, l6, l7] L2 (aI y :: aI x :: St) S = ev c 314 1952 [l0, l1, l2, l3, l4, l5, l6, l7] L2 (aI (x + y) :: St) S := ev_go i314_1951 rfl
theorem i314_1952 : insAt 314 1952 = some (.iaload, 1, (0, 0, 0, 0), 0) := rfl
theorem s314_1952 {c : Nat → List AV → SS → Option Out} {l0 l1 l2 l3 l4 l5 l6 l7 : Option AV} {i : Int32} {o : OId} {L2 : List (Nat × AV)} {St : List AV} {S : SS} : ev c 314 1952 [l0, l1, l2, l3, l4, l5, l6, l7] L2 (aI i :: aR o :: St) S = kI o i (ev c 314 1953 [l0, l1, l2, l3, l4, l5, l6, l7] L2 (aI (agI S o i.toNatClampNeg) :: St) S) := ev_iaload i314_1952
theorem i314_1953 : insAt 314 1953 = some (.aload_n 0, 1, (0, 0, 0, 0), 0) := rfl
theorem s314_1953 {c : Nat → List AV → SS → Option Out} {l1 l2 l3 l4 l5 l6 l7 : Option AV} {o : OId} {L2 : List (Nat × AV)} {St : List AV} {S : SS} : ev c 314 1953 [some (aR o), l1, l2, l3, l4, l5, l6, l7] L2 St S = ev c 314 1954 [some (aR o), l1, l2, l3, l4, l5, l6, l7] L2 (aR o :: St) S := ev_go i314_1953 rfl
theorem i314_1954 : insAt 314 1954 = some (.iload 5, 2, (0, 0, 0, 0), 0) := rfl
theorem s314_1954 {c : Nat → List AV → SS → Option Out} {l0 l1 l2 l3 l4 l6 l7 : Option AV} {x : Int32} {L2 : List (Nat × AV)} {St : List AV} {S : SS} : ev c 314 1954 [l0, l1, l2, l3, l4, some (aI x), l6, l7] L2 St S = ev c 314 1956 [l0, l1, l2, l3, l4, some (aI x), l6, l7] L2 (aI x :: St) S := ev_go i314_1954 rfl
theorem i314_1956 : insAt 314 1956 = some (.iconst 2, 1, (0, 0, 0, 0), 0) := rfl
theorem s314_1956 {c : Nat → List AV → SS → Option Out} {l0 l1 l2 l3 l4 l5 l6 l7 : Option AV} {L2 : List (Nat × AV)} {St : List AV} {S : SS} : ev c 314 1956 [l0, l1, l2, l3, l4, l5, l6, l7] L2 St S = ev c 314 1957 [l0, l1, l2, l3, l4, l5, l6, l7] L2 (aI 2 :: St) S := ev_go i314_1956 rfl
theorem i314_1957 : insAt 314 1957 = some (.iadd, 1, (0, 0, 0, 0), 0) := rfl
theorem s314_1957 {c : Nat → List AV → SS → Option Out} {l0 l1 l2 l3 l4 l5 l6 l7 : Option AV} {x y : Int32} {L2 : List (Nat × AV)} {St : List AV} {S : SS} : ev c 314 1957 [l0, l1, l2, l3, l4, l5, l6, l7] L2 (aI y :: aI x :: St) S = ev c 314 1958 [l0, l1, l2, l3, l4, l5, l6, l7] L2 (aI (x + y) :: St) S := ev_go i314_1957 rfl
theorem i314_1958 : insAt 314 1958 = some (.iaload, 1, (0, 0, 0, 0), 0) := rfl
theorem s314_1958 {c : Nat → List AV → SS → Option Out} {l0 l1 l2 l3 l4 l5 l6 l7 : Option AV} {i : Int32} {o : OId} {L2 : List (Nat × AV)} {St : List AV} {S : SS} : ev c 314 1958 [l0, l1, l2, l3, l4, l5, l6, l7] L2 (aI i :: aR o :: St) S = kI o i (ev c 314 1959 [l0, l1, l2, l3, l4, l5, l6, l7] L2 (aI (agI S o i.toNatClampNeg) :: St) S) := ev_iaload i314_1958
theorem i314_1959 : insAt 314 1959 = some (.invokevirtual 264, 3, (288, 2, 2, 12), 0) := rfl
theorem s314_1959 {c : Nat → List AV → SS → Option Out} {l0 l1 l2 l3 l4 l5 l6 l7 : Option AV} {a0 : Int32} {a1 : Int32} {j t : Nat} {L2 : List (Nat × AV)} {S : SS} : ev c 314 1959 [l0, l1, l2, l3, l4, l5, l6, l7] L2 [aI a1, aI a0, aR (12, j, t)] S = ck (c 288 [aR (12, j, t), aI a0, aI a1] S) (fun v S' => ev c 314 1962 [l0, l1, l2, l3, l4, l5, l6, l7] L2 (v.toList ++ []) S') := ev_call i314_1959 rfl
theorem i314_1962 : insAt 314 1962 = some (.istore 7, 2, (0, 0, 0, 0), 0) := rfl
theorem s314_1962 {c : Nat → List AV → SS → Option Out} {l0 l1 l2 l3 l4 l5 l6 l7 : Option AV} {x : Int32} {L2 : List (Nat × AV)} {St : List AV} {S : SS} : ev c 314 1962 [l0, l1, l2, l3, l4, l5, l6, l7] L2 (aI x :: St) S = ev c 314 1964 [l0, l1, l2, l3, l4, l5, l6, some (aI x)] (kil L2 7) St S := ev_go i314_1962 rfl
theorem i314_1964 : insAt 314 1964 = some (.aload_n 2, 1, (0, 0, 0, 0), 0) := rfl
theorem s314_1964 {c : Nat → List AV → SS → Option Out} {l0 l1 l3 l4 l5 l6 l7 : Option AV} {o : OId} {L2 : List (Nat × AV)} {St : List AV} {S : SS} : ev c 314 1964 [l0, l1, some (aR o), l3, l4, l5, l6, l7] L2 St S = ev c 314 1965 [l0, l1, some (aR o), l3, l4, l5, l6, l7] L2 (aR o :: St) S := ev_go i314_1964 rfl
theorem i314_1965 : insAt 314 1965 = some (.invokevirtual 149, 3, (218, 0, 2, 12), 0) := rfl
theorem s314_1965 {c : Nat → List AV → SS → Option Out} {l0 l1 l2 l3 l4 l5 l6 l7 : Option AV} {j t : Nat} {L2 : List (Nat × AV)} {S : SS} : ev c 314 1965 [l0, l1, l2, l3, l4, l5, l6, l7] L2 [aR (12, j, t)] S = ck (c 218 [aR (12, j, t)] S) (fun v S' => ev c 314 1968 [l0, l1, l2, l3, l4, l5, l6, l7] L2 (v.toList ++ []) S') := ev_call i314_1965 rfl
theorem i314_1968 : insAt 314 1968 = some (.iload 6, 2, (0, 0, 0, 0), 0) := rfl
theorem s314_1968 {c : Nat → List AV → SS → Option Out} {l0 l1 l2 l3 l4 l5 l7 : Option AV} {x : Int32} {L2 : List (Nat × AV)} {St : List AV} {S : SS} : ev c 314 1968 [l0, l1, l2, l3, l4, l5, some (aI x), l7] L2 St S = ev c 314 1970 [l0, l1, l2, l3, l4, l5, some (aI x), l7] L2 (aI x :: St) S := ev_go i314_1968 rfl
theorem i314_1970 : insAt 314 1970 = some (.if_icmp .eq 5, 3, (0, 0, 0, 0), 0) := rfl
theorem s314_1970 {c : Nat → List AV → SS → Option Out} {l0 l1 l2 l3 l4 l5 l6 l7 : Option AV} {x y : Int32} {L2 : List (Nat × AV)} {St : List AV} {S : SS} : ev c 314 1970 [l0, l1, l2, l3, l4, l5, l6, l7] L2 (aI y :: aI x :: St) S = if x = y then ev c 314 1975 [l0, l1, l2, l3, l4, l5, l6, l7] L2 St S else ev c 314 1973 [l0, l1, l2, l3, l4, l5, l6, l7] L2 St S := ev_br i314_1970 rfl
theorem i314_1973 : insAt 314 1973 = some (.iconst 0, 1, (0, 0, 0, 0), 0) := rfl
theorem s314_1973 {c : Nat → List AV → SS → Option Out} {l0 l1 l2 l3 l4 l5 l6 l7 : Option AV} {L2 : List (Nat × AV)} {St : List AV} {S : SS} : ev c 314 1973 [l0, l1, l2, l3, l4, l5, l6, l7] L2 St S = ev c 314 1974 [l0, l1, l2, l3, l4, l5, l6, l7] L2 (aI 0 :: St) S := ev_go i314_1973 rfl
theorem i314_1974 : insAt 314 1974 = some (.ireturn, 1, (0, 0, 0, 0), 0) := rfl
theorem s314_1974 {c : Nat → List AV → SS → Option Out} {l0 l1 l2 l3 l4 l5 l6 l7 : Option AV} {x : Int32} {L2 : List (Nat × AV)} {St : List AV} {S : SS} : ev c 314 1974 [l0, l1, l2, l3, l4, l5, l6, l7] L2 [aI x] S = if x = 0 ∨ x = 1 then some (.inl (some (aI x)), S) else none := ev_rt i314_1974 rfl
theorem i314_1975 : insAt 314 1975 = some (.iload 6, 2, (0, 0, 0, 0), 0) := rfl
theorem s314_1975 {c : Nat → List AV → SS → Option Out} {l0 l1 l2 l3 l4 l5 l7 : Option AV} {x : Int32} {L2 : List (Nat × AV)} {St : List AV} {S : SS} : ev c 314 1975 [l0, l1, l2, l3, l4, l5, some (aI x), l7] L2 St S = ev c 314 1977 [l0, l1, l2, l3, l4, l5, some (aI x), l7] L2 (aI x :: St) S := ev_go i314_1975 rfl
theorem i314_1977 : insAt 314 1977 = some (.ifCond .ne 15, 3, (0, 0, 0, 0), 0) := rfl
theorem s314_1977 {c : Nat → List AV → SS → Option Out} {l0 l1 l2 l3 l4 l5 l6 l7 : Option AV} {x : Int32} {L2 : List (Nat × AV)} {St : List AV} {S : SS} : ev c 314 1977 [l0, l1, l2, l3, l4, l5, l6, l7] L2 (aI x :: St) S = if x = 0 then ev c 314 1980 [l0, l1, l2, l3, l4, l5, l6, l7] L2 St S else ev c 314 1992 [l0, l1, l2, l3, l4, l5, l6, l7] L2 St S := (ev_br i314_1977 rfl).trans (ite_not _ _ _)
theorem i314_1980 : insAt 314 1980 = some (.aload_n 3, 1, (0, 0, 0, 0), 0) := rfl
theorem s314_1980 {c : Nat → List AV → SS → Option Out} {l0 l1 l2 l4 l5 l6 l7 : Option AV} {o : OId} {L2 : List (Nat × AV)} {St : List AV} {S : SS} : ev c 314 1980 [l0, l1, l2, some (aR o), l4, l5, l6, l7] L2 St S = ev c 314 1981 [l0, l1, l2, some (aR o), l4, l5, l6, l7] L2 (aR o :: St) S := ev_go i314_1980 rfl
theorem i314_1981 : insAt 314 1981 = some (.iconst 0, 1, (0, 0, 0, 0), 0) := rfl
theorem s314_1981 {c : Nat → List AV → SS → Option Out} {l0 l1 l2 l3 l4 l5 l6 l7 : Option AV} {L2 : List (Nat × AV)} {St : List AV} {S : SS} : ev c 314 1981 [l0, l1, l2, l3, l4, l5, l6, l7] L2 St S = ev c 314 1982 [l0, l1, l2, l3, l4, l5, l6, l7] L2 (aI 0 :: St) S := ev_go i314_1981 rfl
theorem i314_1982 : insAt 314 1982 = some (.laload, 1, (0, 0, 0, 0), 0) := rfl
theorem s314_1982 {c : Nat → List AV → SS → Option Out} {l0 l1 l2 l3 l4 l5 l6 l7 : Option AV} {i : Int32} {o : OId} {L2 : List (Nat × AV)} {St : List AV} {S : SS} : ev c 314 1982 [l0, l1, l2, l3, l4, l5, l6, l7] L2 (aI i :: aR o :: St) S = kJ o i (ev c 314 1983 [l0, l1, l2, l3, l4, l5, l6, l7] L2 (aL (toL (S.2.1 o i.toNatClampNeg)) :: St) S) := ev_laload i314_1982
theorem i314_1983 : insAt 314 1983 = some (.iload 7, 2, (0, 0, 0, 0), 0) := rfl
theorem s314_1983 {c : Nat → List AV → SS → Option Out} {l0 l1 l2 l3 l4 l5 l6 : Option AV} {x : Int32} {L2 : List (Nat × AV)} {St : List AV} {S : SS} : ev c 314 1983 [l0, l1, l2, l3, l4, l5, l6, some (aI x)] L2 St S = ev c 314 1985 [l0, l1, l2, l3, l4, l5, l6, some (aI x)] L2 (aI x :: St) S := ev_go i314_1983 rfl
theorem i314_1985 : insAt 314 1985 = some (.i2l, 1, (0, 0, 0, 0), 0) := rfl
theorem s314_1985 {c : Nat → List AV → SS → Option Out} {l0 l1 l2 l3 l4 l5 l6 l7 : Option AV} {x : Int32} {L2 : List (Nat × AV)} {St : List AV} {S : SS} : ev c 314 1985 [l0, l1, l2, l3, l4, l5, l6, l7] L2 (aI x :: St) S = ev c 314 1986 [l0, l1, l2, l3, l4, l5, l6, l7] L2 (aL x.toInt64 :: St) S := ev_go i314_1985 rfl
theorem i314_1986 : insAt 314 1986 = some (.lcmp, 1, (0, 0, 0, 0), 0) := rfl
theorem s314_1986 {c : Nat → List AV → SS → Option Out} {l0 l1 l2 l3 l4 l5 l6 l7 : Option AV} {x y : Int64} {L2 : List (Nat × AV)} {St : List AV} {S : SS} : ev c 314 1986 [l0, l1, l2, l3, l4, l5, l6, l7] L2 (aL y :: aL x :: St) S = ev c 314 1987 [l0, l1, l2, l3, l4, l5, l6, l7] L2 (aI (if x < y then -1 else if x = y then 0 else 1) :: St) S := ev_go i314_1986 rfl
theorem i314_1987 : insAt 314 1987 = some (.ifCond .eq 5, 3, (0, 0, 0, 0), 0) := rfl
theorem s314_1987 {c : Nat → List AV → SS → Option Out} {l0 l1 l2 l3 l4 l5 l6 l7 : Option AV} {x : Int32} {L2 : List (Nat × AV)} {St : List AV} {S : SS} : ev c 314 1987 [l0, l1, l2, l3, l4, l5, l6, l7] L2 (aI x :: St) S = if x = 0 then ev c 314 1992 [l0, l1, l2, l3, l4, l5, l6, l7] L2 St S else ev c 314 1990 [l0, l1, l2, l3, l4, l5, l6, l7] L2 St S := ev_br i314_1987 rfl
theorem i314_1990 : insAt 314 1990 = some (.iconst 0, 1, (0, 0, 0, 0), 0) := rfl
theorem s314_1990 {c : Nat → List AV → SS → Option Out} {l0 l1 l2 l3 l4 l5 l6 l7 : Option AV} {L2 : List (Nat × AV)} {St : List AV} {S : SS} : ev c 314 1990 [l0, l1, l2, l3, l4, l5, l6, l7] L2 St S = ev c 314 1991 [l0, l1, l2, l3, l4, l5, l6, l7] L2 (aI 0 :: St) S := ev_go i314_1990 rfl
theorem i314_1991 : insAt 314 1991 = some (.ireturn, 1, (0, 0, 0, 0), 0) := rfl
theorem s314_1991 {c : Nat → List AV → SS → Option Out} {l0 l1 l2 l3 l4 l5 l6 l7 : Option AV} {x : Int32} {L2 : List (Nat × AV)} {St : List AV} {S : SS} : ev c 314 1991 [l0, l1, l2, l3, l4, l5, l6, l7] L2 [aI x] S = if x = 0 ∨ x = 1 then some (.inl (some (aI x)), S) else none := ev_rt i314_1991 rfl
theorem i314_1992 : insAt 314 1992 = some (.goto 807, 3, (0, 0, 0, 0), 0) := rfl
theorem s314_1992 {c : Nat → List AV → SS → Option Out} {l0 l1 l2 l3 l4 l5 l6 l7 : Option AV} {L2 : List (Nat × AV)} {St : List AV} {S : SS} : ev c 314 1992 [l0, l1, l2, l3, l4, l5, l6, l7] L2 St S = ev c 314 2799 [l0, l1, l2, l3, l4, l5, l6, l7] L2 St S := ev_go i314_1992 rfl
theorem i314_1995 : insAt 314 1995 = some (.aload_n 1, 1, (0, 0, 0, 0), 0) := rfl
theorem s314_1995 {c : Nat → List AV → SS → Option Out} {l0 l2 l3 l4 l5 l6 l7 : Option AV} {o : OId} {L2 : List (Nat × AV)} {St : List AV} {S : SS} : ev c 314 1995 [l0, some (aR o), l2, l3, l4, l5, l6, l7] L2 St S = ev c 314 1996 [l0, some (aR o), l2, l3, l4, l5, l6, l7] L2 (aR o :: St) S := ev_go i314_1995 rfl
theorem i314_1996 : insAt 314 1996 = some (.aload_n 0, 1, (0, 0, 0, 0), 0) := rfl
theorem s314_1996 {c : Nat → List AV → SS → Option Out} {l1 l2 l3 l4 l5 l6 l7 : Option AV} {o : OId} {L2 : List (Nat × AV)} {St : List AV} {S : SS} : ev c 314 1996 [some (aR o), l1, l2, l3, l4, l5, l6, l7] L2 St S = ev c 314 1997 [some (aR o), l1, l2, l3, l4, l5, l6, l7] L2 (aR o :: St) S := ev_go i314_1996 rfl
theorem i314_1997 : insAt 314 1997 = some (.iload 5, 2, (0, 0, 0, 0), 0) := rfl
theorem s314_1997 {c : Nat → List AV → SS → Option Out} {l0 l1 l2 l3 l4 l6 l7 : Option AV} {x : Int32} {L2 : List (Nat × AV)} {St : List AV} {S : SS} : ev c 314 1997 [l0, l1, l2, l3, l4, some (aI x), l6, l7] L2 St S = ev c 314 1999 [l0, l1, l2, l3, l4, some (aI x), l6, l7] L2 (aI x :: St) S := ev_go i314_1997 rfl
theorem i314_1999 : insAt 314 1999 = some (.iconst 1, 1, (0, 0, 0, 0), 0) := rfl
theorem s314_1999 {c : Nat → List AV → SS → Option Out} {l0 l1 l2 l3 l4 l5 l6 l7 : Option AV} {L2 : List (Nat × AV)} {St : List AV} {S : SS} : ev c 314 1999 [l0, l1, l2, l3, l4, l5, l6, l7] L2 St S = ev c 314 2000 [l0, l1, l2, l3, l4, l5, l6, l7] L2 (aI 1 :: St) S := ev_go i314_1999 rfl
theorem i314_2000 : insAt 314 2000 = some (.iadd, 1, (0, 0, 0, 0), 0) := rfl
theorem s314_2000 {c : Nat → List AV → SS → Option Out} {l0 l1 l2 l3 l4 l5 l6 l7 : Option AV} {x y : Int32} {L2 : List (Nat × AV)} {St : List AV} {S : SS} : ev c 314 2000 [l0, l1, l2, l3, l4, l5, l6, l7] L2 (aI y :: aI x :: St) S = ev c 314 2001 [l0, l1, l2, l3, l4, l5, l6, l7] L2 (aI (x + y) :: St) S := ev_go i314_2000 rfl
theorem i314_2001 : insAt 314 2001 = some (.iaload, 1, (0, 0, 0, 0), 0) := rfl
theorem s314_2001 {c : Nat → List AV → SS → Option Out} {l0 l1 l2 l3 l4 l5 l6 l7 : Option AV} {i : Int32} {o : OId} {L2 : List (Nat × AV)} {St : List AV} {S : SS} : ev c 314 2001 [l0, l1, l2, l3, l4, l5, l6, l7] L2 (aI i :: aR o :: St) S = kI o i (ev c 314 2002 [l0, l1, l2, l3, l4, l5, l6, l7] L2 (aI (agI S o i.toNatClampNeg) :: St) S) := ev_iaload i314_2001
theorem i314_2002 : insAt 314 2002 = some (.aload_n 0, 1, (0, 0, 0, 0), 0) := rfl
theorem s314_2002 {c : Nat → List AV → SS → Option Out} {l1 l2 l3 l4 l5 l6 l7 : Option AV} {o : OId} {L2 : List (Nat × AV)} {St : List AV} {S : SS} : ev c 314 2002 [some (aR o), l1, l2, l3, l4, l5, l6, l7] L2 St S = ev c 314 2003 [some (aR o), l1, l2, l3, l4, l5, l6, l7] L2 (aR o :: St) S := ev_go i314_2002 rfl
theorem i314_2003 : insAt 314 2003 = some (.iload 5, 2, (0, 0, 0, 0), 0) := rfl
theorem s314_2003 {c : Nat → List AV → SS → Option Out} {l0 l1 l2 l3 l4 l6 l7 : Option AV} {x : Int32} {L2 : List (Nat × AV)} {St : List AV} {S : SS} : ev c 314 2003 [l0, l1, l2, l3, l4, some (aI x), l6, l7] L2 St S = ev c 314 2005 [l0, l1, l2, l3, l4, some (aI x), l6, l7] L2 (aI x :: St) S := ev_go i314_2003 rfl
theorem i314_2005 : insAt 314 2005 = some (.iconst 2, 1, (0, 0, 0, 0), 0) := rfl
theorem s314_2005 {c : Nat → List AV → SS → Option Out} {l0 l1 l2 l3 l4 l5 l6 l7 : Option AV} {L2 : List (Nat × AV)} {St : List AV} {S : SS} : ev c 314 2005 [l0, l1, l2, l3, l4, l5, l6, l7] L2 St S = ev c 314 2006 [l0, l1, l2, l3, l4, l5, l6, l7] L2 (aI 2 :: St) S := ev_go i314_2005 rfl
theorem i314_2006 : insAt 314 2006 = some (.iadd, 1, (0, 0, 0, 0), 0) := rfl
theorem s314_2006 {c : Nat → List AV → SS → Option Out} {l0 l1 l2 l3 l4 l5 l6 l7 : Option AV} {x y : Int32} {L2 : List (Nat × AV)} {St : List AV} {S : SS} : ev c 314 2006 [l0, l1, l2, l3, l4, l5, l6, l7] L2 (aI y :: aI x :: St) S = ev c 314 2007 [l0, l1, l2, l3, l4, l5, l6, l7] L2 (aI (x + y) :: St) S := ev_go i314_2006 rfl
theorem i314_2007 : insAt 314 2007 = some (.iaload, 1, (0, 0, 0, 0), 0) := rfl
theorem s314_2007 {c : Nat → List AV → SS → Option Out} {l0 l1 l2 l3 l4 l5 l6 l7 : Option AV} {i : Int32} {o : OId} {L2 : List (Nat × AV)} {St : List AV} {S : SS} : ev c 314 2007 [l0, l1, l2, l3, l4, l5, l6, l7] L2 (aI i :: aR o :: St) S = kI o i (ev c 314 2008 [l0, l1, l2, l3, l4, l5, l6, l7] L2 (aI (agI S o i.toNatClampNeg) :: St) S) := ev_iaload i314_2007
theorem i314_2008 : insAt 314 2008 = some (.aload_n 3, 1, (0, 0, 0, 0), 0) := rfl
theorem s314_2008 {c : Nat → List AV → SS → Option Out} {l0 l1 l2 l4 l5 l6 l7 : Option AV} {o : OId} {L2 : List (Nat × AV)} {St : List AV} {S : SS} : ev c 314 2008 [l0, l1, l2, some (aR o), l4, l5, l6, l7] L2 St S = ev c 314 2009 [l0, l1, l2, some (aR o), l4, l5, l6, l7] L2 (aR o :: St) S := ev_go i314_2008 rfl
theorem i314_2009 : insAt 314 2009 = some (.invokestatic 265, 3, (143, 4, 0, 0), 0) := rfl
theorem s314_2009 {c : Nat → List AV → SS → Option Out} {l0 l1 l2 l3 l4 l5 l6 l7 : Option AV} {a0 : OId} {a1 : Int32} {a2 : Int32} {a3 : OId} {L2 : List (Nat × AV)} {S : SS} : ev c 314 2009 [l0, l1, l2, l3, l4, l5, l6, l7] L2 [aR a3, aI a2, aI a1, aR a0] S = ck (c 143 [aR a0, aI a1, aI a2, aR a3] S) (fun v S' => ev c 314 2012 [l0, l1, l2, l3, l4, l5, l6, l7] L2 (v.toList ++ []) S') := ev_call i314_2009 rfl
theorem i314_2012 : insAt 314 2012 = some (.istore 6, 2, (0, 0, 0, 0), 0) := rfl
theorem s314_2012 {c : Nat → List AV → SS → Option Out} {l0 l1 l2 l3 l4 l5 l6 l7 : Option AV} {x : Int32} {L2 : List (Nat × AV)} {St : List AV} {S : SS} : ev c 314 2012 [l0, l1, l2, l3, l4, l5, l6, l7] L2 (aI x :: St) S = ev c 314 2014 [l0, l1, l2, l3, l4, l5, some (aI x), l7] (kil L2 6) St S := ev_go i314_2012 rfl
theorem i314_2014 : insAt 314 2014 = some (.aload_n 2, 1, (0, 0, 0, 0), 0) := rfl
theorem s314_2014 {c : Nat → List AV → SS → Option Out} {l0 l1 l3 l4 l5 l6 l7 : Option AV} {o : OId} {L2 : List (Nat × AV)} {St : List AV} {S : SS} : ev c 314 2014 [l0, l1, some (aR o), l3, l4, l5, l6, l7] L2 St S = ev c 314 2015 [l0, l1, some (aR o), l3, l4, l5, l6, l7] L2 (aR o :: St) S := ev_go i314_2014 rfl
theorem i314_2015 : insAt 314 2015 = some (.aload_n 0, 1, (0, 0, 0, 0), 0) := rfl
theorem s314_2015 {c : Nat → List AV → SS → Option Out} {l1 l2 l3 l4 l5 l6 l7 : Option AV} {o : OId} {L2 : List (Nat × AV)} {St : List AV} {S : SS} : ev c 314 2015 [some (aR o), l1, l2, l3, l4, l5, l6, l7] L2 St S = ev c 314 2016 [some (aR o), l1, l2, l3, l4, l5, l6, l7] L2 (aR o :: St) S := ev_go i314_2015 rfl
theorem i314_2016 : insAt 314 2016 = some (.iload 5, 2, (0, 0, 0, 0), 0) := rfl
theorem s314_2016 {c : Nat → List AV → SS → Option Out} {l0 l1 l2 l3 l4 l6 l7 : Option AV} {x : Int32} {L2 : List (Nat × AV)} {St : List AV} {S : SS} : ev c 314 2016 [l0, l1, l2, l3, l4, some (aI x), l6, l7] L2 St S = ev c 314 2018 [l0, l1, l2, l3, l4, some (aI x), l6, l7] L2 (aI x :: St) S := ev_go i314_2016 rfl
theorem i314_2018 : insAt 314 2018 = some (.iconst 1, 1, (0, 0, 0, 0), 0) := rfl
theorem s314_2018 {c : Nat → List AV → SS → Option Out} {l0 l1 l2 l3 l4 l5 l6 l7 : Option AV} {L2 : List (Nat × AV)} {St : List AV} {S : SS} : ev c 314 2018 [l0, l1, l2, l3, l4, l5, l6, l7] L2 St S = ev c 314 2019 [l0, l1, l2, l3, l4, l5, l6, l7] L2 (aI 1 :: St) S := ev_go i314_2018 rfl
theorem i314_2019 : insAt 314 2019 = some (.iadd, 1, (0, 0, 0, 0), 0) := rfl
theorem s314_2019 {c : Nat → List AV → SS → Option Out} {l0 l1 l2 l3 l4 l5 l6 l7 : Option AV} {x y : Int32} {L2 : List (Nat × AV)} {St : List AV} {S : SS} : ev c 314 2019 [l0, l1, l2, l3, l4, l5, l6, l7] L2 (aI y :: aI x :: St) S = ev c 314 2020 [l0, l1, l2, l3, l4, l5, l6, l7] L2 (aI (x + y) :: St) S := ev_go i314_2019 rfl
theorem i314_2020 : insAt 314 2020 = some (.iaload, 1, (0, 0, 0, 0), 0) := rfl
theorem s314_2020 {c : Nat → List AV → SS → Option Out} {l0 l1 l2 l3 l4 l5 l6 l7 : Option AV} {i : Int32} {o : OId} {L2 : List (Nat × AV)} {St : List AV} {S : SS} : ev c 314 2020 [l0, l1, l2, l3, l4, l5, l6, l7] L2 (aI i :: aR o :: St) S = kI o i (ev c 314 2021 [l0, l1, l2, l3, l4, l5, l6, l7] L2 (aI (agI S o i.toNatClampNeg) :: St) S) := ev_iaload i314_2020
theorem i314_2021 : insAt 314 2021 = some (.aload_n 0, 1, (0, 0, 0, 0), 0) := rfl
theorem s314_2021 {c : Nat → List AV → SS → Option Out} {l1 l2 l3 l4 l5 l6 l7 : Option AV} {o : OId} {L2 : List (Nat × AV)} {St : List AV} {S : SS} : ev c 314 2021 [some (aR o), l1, l2, l3, l4, l5, l6, l7] L2 St S = ev c 314 2022 [some (aR o), l1, l2, l3, l4, l5, l6, l7] L2 (aR o :: St) S := ev_go i314_2021 rfl
theorem i314_2022 : insAt 314 2022 = some (.iload 5, 2, (0, 0, 0, 0), 0) := rfl
theorem s314_2022 {c : Nat → List AV → SS → Option Out} {l0 l1 l2 l3 l4 l6 l7 : Option AV} {x : Int32} {L2 : List (Nat × AV)} {St : List AV} {S : SS} : ev c 314 2022 [l0, l1, l2, l3, l4, some (aI x), l6, l7] L2 St S = ev c 314 2024 [l0, l1, l2, l3, l4, some (aI x), l6, l7] L2 (aI x :: St) S := ev_go i314_2022 rfl
theorem i314_2024 : insAt 314 2024 = some (.iconst 2, 1, (0, 0, 0, 0), 0) := rfl
theorem s314_2024 {c : Nat → List AV → SS → Option Out} {l0 l1 l2 l3 l4 l5 l6 l7 : Option AV} {L2 : List (Nat × AV)} {St : List AV} {S : SS} : ev c 314 2024 [l0, l1, l2, l3, l4, l5, l6, l7] L2 St S = ev c 314 2025 [l0, l1, l2, l3, l4, l5, l6, l7] L2 (aI 2 :: St) S := ev_go i314_2024 rfl
theorem i314_2025 : insAt 314 2025 = some (.iadd, 1, (0, 0, 0, 0), 0) := rfl
theorem s314_2025 {c : Nat → List AV → SS → Option Out} {l0 l1 l2 l3 l4 l5 l6 l7 : Option AV} {x y : Int32} {L2 : List (Nat × AV)} {St : List AV} {S : SS} : ev c 314 2025 [l0, l1, l2, l3, l4, l5, l6, l7] L2 (aI y :: aI x :: St) S = ev c 314 2026 [l0, l1, l2, l3, l4, l5, l6, l7] L2 (aI (x + y) :: St) S := ev_go i314_2025 rfl
theorem i314_2026 : insAt 314 2026 = some (.iaload, 1, (0, 0, 0, 0), 0) := rfl
theorem s314_2026 {c : Nat → List AV → SS → Option Out} {l0 l1 l2 l3 l4 l5 l6 l7 : Option AV} {i : Int32} {o : OId} {L2 : List (Nat × AV)} {St : List AV} {S : SS} : ev c 314 2026 [l0, l1, l2, l3, l4, l5, l6, l7] L2 (aI i :: aR o :: St) S = kI o i (ev c 314 2027 [l0, l1, l2, l3, l4, l5, l6, l7] L2 (aI (agI S o i.toNatClampNeg) :: St) S) := ev_iaload i314_2026
theorem i314_2027 : insAt 314 2027 = some (.invokevirtual 267, 3, (289, 2, 2, 12), 0) := rfl
theorem s314_2027 {c : Nat → List AV → SS → Option Out} {l0 l1 l2 l3 l4 l5 l6 l7 : Option AV} {a0 : Int32} {a1 : Int32} {j t : Nat} {L2 : List (Nat × AV)} {S : SS} : ev c 314 2027 [l0, l1, l2, l3, l4, l5, l6, l7] L2 [aI a1, aI a0, aR (12, j, t)] S = ck (c 289 [aR (12, j, t), aI a0, aI a1] S) (fun v S' => ev c 314 2030 [l0, l1, l2, l3, l4, l5, l6, l7] L2 (v.toList ++ []) S') := ev_call i314_2027 rfl
theorem i314_2030 : insAt 314 2030 = some (.istore 7, 2, (0, 0, 0, 0), 0) := rfl
theorem s314_2030 {c : Nat → List AV → SS → Option Out} {l0 l1 l2 l3 l4 l5 l6 l7 : Option AV} {x : Int32} {L2 : List (Nat × AV)} {St : List AV} {S : SS} : ev c 314 2030 [l0, l1, l2, l3, l4, l5, l6, l7] L2 (aI x :: St) S = ev c 314 2032 [l0, l1, l2, l3, l4, l5, l6, some (aI x)] (kil L2 7) St S := ev_go i314_2030 rfl
theorem i314_2032 : insAt 314 2032 = some (.aload_n 2, 1, (0, 0, 0, 0), 0) := rfl
theorem s314_2032 {c : Nat → List AV → SS → Option Out} {l0 l1 l3 l4 l5 l6 l7 : Option AV} {o : OId} {L2 : List (Nat × AV)} {St : List AV} {S : SS} : ev c 314 2032 [l0, l1, some (aR o), l3, l4, l5, l6, l7] L2 St S = ev c 314 2033 [l0, l1, some (aR o), l3, l4, l5, l6, l7] L2 (aR o :: St) S := ev_go i314_2032 rfl
theorem i314_2033 : insAt 314 2033 = some (.invokevirtual 149, 3, (218, 0, 2, 12), 0) := rfl
theorem s314_2033 {c : Nat → List AV → SS → Option Out} {l0 l1 l2 l3 l4 l5 l6 l7 : Option AV} {j t : Nat} {L2 : List (Nat × AV)} {S : SS} : ev c 314 2033 [l0, l1, l2, l3, l4, l5, l6, l7] L2 [aR (12, j, t)] S = ck (c 218 [aR (12, j, t)] S) (fun v S' => ev c 314 2036 [l0, l1, l2, l3, l4, l5, l6, l7] L2 (v.toList ++ []) S') := ev_call i314_2033 rfl
theorem i314_2036 : insAt 314 2036 = some (.iload 6, 2, (0, 0, 0, 0), 0) := rfl
theorem s314_2036 {c : Nat → List AV → SS → Option Out} {l0 l1 l2 l3 l4 l5 l7 : Option AV} {x : Int32} {L2 : List (Nat × AV)} {St : List AV} {S : SS} : ev c 314 2036 [l0, l1, l2, l3, l4, l5, some (aI x), l7] L2 St S = ev c 314 2038 [l0, l1, l2, l3, l4, l5, some (aI x), l7] L2 (aI x :: St) S := ev_go i314_2036 rfl
theorem i314_2038 : insAt 314 2038 = some (.if_icmp .eq 5, 3, (0, 0, 0, 0), 0) := rfl
theorem s314_2038 {c : Nat → List AV → SS → Option Out} {l0 l1 l2 l3 l4 l5 l6 l7 : Option AV} {x y : Int32} {L2 : List (Nat × AV)} {St : List AV} {S : SS} : ev c 314 2038 [l0, l1, l2, l3, l4, l5, l6, l7] L2 (aI y :: aI x :: St) S = if x = y then ev c 314 2043 [l0, l1, l2, l3, l4, l5, l6, l7] L2 St S else ev c 314 2041 [l0, l1, l2, l3, l4, l5, l6, l7] L2 St S := ev_br i314_2038 rfl
theorem i314_2041 : insAt 314 2041 = some (.iconst 0, 1, (0, 0, 0, 0), 0) := rfl
theorem s314_2041 {c : Nat → List AV → SS → Option Out} {l0 l1 l2 l3 l4 l5 l6 l7 : Option AV} {L2 : List (Nat × AV)} {St : List AV} {S : SS} : ev c 314 2041 [l0, l1, l2, l3, l4, l5, l6, l7] L2 St S = ev c 314 2042 [l0, l1, l2, l3, l4, l5, l6, l7] L2 (aI 0 :: St) S := ev_go i314_2041 rfl
theorem i314_2042 : insAt 314 2042 = some (.ireturn, 1, (0, 0, 0, 0), 0) := rfl
theorem s314_2042 {c : Nat → List AV → SS → Option Out} {l0 l1 l2 l3 l4 l5 l6 l7 : Option AV} {x : Int32} {L2 : List (Nat × AV)} {St : List AV} {S : SS} : ev c 314 2042 [l0, l1, l2, l3, l4, l5, l6, l7] L2 [aI x] S = if x = 0 ∨ x = 1 then some (.inl (some (aI x)), S) else none := ev_rt i314_2042 rfl
theorem i314_2043 : insAt 314 2043 = some (.iload 6, 2, (0, 0, 0, 0), 0) := rfl
theorem s314_2043 {c : Nat → List AV → SS → Option Out} {l0 l1 l2 l3 l4 l5 l7 : Option AV} {x : Int32} {L2 : List (Nat × AV)} {St : List AV} {S : SS} : ev c 314 2043 [l0, l1, l2, l3, l4, l5, some (aI x), l7] L2 St S = ev c 314 2045 [l0, l1, l2, l3, l4, l5, some (aI x), l7] L2 (aI x :: St) S := ev_go i314_2043 rfl
theorem i314_2045 : insAt 314 2045 = some (.ifCond .ne 15, 3, (0, 0, 0, 0), 0) := rfl
theorem s314_2045 {c : Nat → List AV → SS → Option Out} {l0 l1 l2 l3 l4 l5 l6 l7 : Option AV} {x : Int32} {L2 : List (Nat × AV)} {St : List AV} {S : SS} : ev c 314 2045 [l0, l1, l2, l3, l4, l5, l6, l7] L2 (aI x :: St) S = if x = 0 then ev c 314 2048 [l0, l1, l2, l3, l4, l5, l6, l7] L2 St S else ev c 314 2060 [l0, l1, l2, l3, l4, l5, l6, l7] L2 St S := (ev_br i314_2045 rfl).trans (ite_not _ _ _)
theorem i314_2048 : insAt 314 2048 = some (.aload_n 3, 1, (0, 0, 0, 0), 0) := rfl
theorem s314_2048 {c : Nat → List AV → SS → Option Out} {l0 l1 l2 l4 l5 l6 l7 : Option AV} {o : OId} {L2 : List (Nat × AV)} {St : List AV} {S : SS} : ev c 314 2048 [l0, l1, l2, some (aR o), l4, l5, l6, l7] L2 St S = ev c 314 2049 [l0, l1, l2, some (aR o), l4, l5, l6, l7] L2 (aR o :: St) S := ev_go i314_2048 rfl
theorem i314_2049 : insAt 314 2049 = some (.iconst 0, 1, (0, 0, 0, 0), 0) := rfl
theorem s314_2049 {c : Nat → List AV → SS → Option Out} {l0 l1 l2 l3 l4 l5 l6 l7 : Option AV} {L2 : List (Nat × AV)} {St : List AV} {S : SS} : ev c 314 2049 [l0, l1, l2, l3, l4, l5, l6, l7] L2 St S = ev c 314 2050 [l0, l1, l2, l3, l4, l5, l6, l7] L2 (aI 0 :: St) S := ev_go i314_2049 rfl
theorem i314_2050 : insAt 314 2050 = some (.laload, 1, (0, 0, 0, 0), 0) := rfl
theorem s314_2050 {c : Nat → List AV → SS → Option Out} {l0 l1 l2 l3 l4 l5 l6 l7 : Option AV} {i : Int32} {o : OId} {L2 : List (Nat × AV)} {St : List AV} {S : SS} : ev c 314 2050 [l0, l1, l2, l3, l4, l5, l6, l7] L2 (aI i :: aR o :: St) S = kJ o i (ev c 314 2051 [l0, l1, l2, l3, l4, l5, l6, l7] L2 (aL (toL (S.2.1 o i.toNatClampNeg)) :: St) S) := ev_laload i314_2050
theorem i314_2051 : insAt 314 2051 = some (.iload 7, 2, (0, 0, 0, 0), 0) := rfl
theorem s314_2051 {c : Nat → List AV → SS → Option Out} {l0 l1 l2 l3 l4 l5 l6 : Option AV} {x : Int32} {L2 : List (Nat × AV)} {St : List AV} {S : SS} : ev c 314 2051 [l0, l1, l2, l3, l4, l5, l6, some (aI x)] L2 St S = ev c 314 2053 [l0, l1, l2, l3, l4, l5, l6, some (aI x)] L2 (aI x :: St) S := ev_go i314_2051 rfl
theorem i314_2053 : insAt 314 2053 = some (.i2l, 1, (0, 0, 0, 0), 0) := rfl
theorem s314_2053 {c : Nat → List AV → SS → Option Out} {l0 l1 l2 l3 l4 l5 l6 l7 : Option AV} {x : Int32} {L2 : List (Nat × AV)} {St : List AV} {S : SS} : ev c 314 2053 [l0, l1, l2, l3, l4, l5, l6, l7] L2 (aI x :: St) S = ev c 314 2054 [l0, l1, l2, l3, l4, l5, l6, l7] L2 (aL x.toInt64 :: St) S := ev_go i314_2053 rfl
theorem i314_2054 : insAt 314 2054 = some (.lcmp, 1, (0, 0, 0, 0), 0) := rfl
theorem s314_2054 {c : Nat → List AV → SS → Option Out} {l0 l1 l2 l3 l4 l5 l6 l7 : Option AV} {x y : Int64} {L2 : List (Nat × AV)} {St : List AV} {S : SS} : ev c 314 2054 [l0, l1, l2, l3, l4, l5, l6, l7] L2 (aL y :: aL x :: St) S = ev c 314 2055 [l0, l1, l2, l3, l4, l5, l6, l7] L2 (aI (if x < y then -1 else if x = y then 0 else 1) :: St) S := ev_go i314_2054 rfl
theorem i314_2055 : insAt 314 2055 = some (.ifCond .eq 5, 3, (0, 0, 0, 0), 0) := rfl
theorem s314_2055 {c : Nat → List AV → SS → Option Out} {l0 l1 l2 l3 l4 l5 l6 l7 : Option AV} {x : Int32} {L2 : List (Nat × AV)} {St : List AV} {S : SS} : ev c 314 2055 [l0, l1, l2, l3, l4, l5, l6, l7] L2 (aI x :: St) S = if x = 0 then ev c 314 2060 [l0, l1, l2, l3, l4, l5, l6, l7] L2 St S else ev c 314 2058 [l0, l1, l2, l3, l4, l5, l6, l7] L2 St S := ev_br i314_2055 rfl
theorem i314_2058 : insAt 314 2058 = some (.iconst 0, 1, (0, 0, 0, 0), 0) := rfl
theorem s314_2058 {c : Nat → List AV → SS → Option Out} {l0 l1 l2 l3 l4 l5 l6 l7 : Option AV} {L2 : List (Nat × AV)} {St : List AV} {S : SS} : ev c 314 2058 [l0, l1, l2, l3, l4, l5, l6, l7] L2 St S = ev c 314 2059 [l0, l1, l2, l3, l4, l5, l6, l7] L2 (aI 0 :: St) S := ev_go i314_2058 rfl
theorem i314_2059 : insAt 314 2059 = some (.ireturn, 1, (0, 0, 0, 0), 0) := rfl
theorem s314_2059 {c : Nat → List AV → SS → Option Out} {l0 l1 l2 l3 l4 l5 l6 l7 : Option AV} {x : Int32} {L2 : List (Nat × AV)} {St : List AV} {S : SS} : ev c 314 2059 [l0, l1, l2, l3, l4, l5, l6, l7] L2 [aI x] S = if x = 0 ∨ x = 1 then some (.inl (some (aI x)), S) else none := ev_rt i314_2059 rfl
theorem i314_2060 : insAt 314 2060 = some (.goto 739, 3, (0, 0, 0, 0), 0) := rfl
theorem s314_2060 {c : Nat → List AV → SS → Option Out} {l0 l1 l2 l3 l4 l5 l6 l7 : Option AV} {L2 : List (Nat × AV)} {St : List AV} {S : SS} : ev c 314 2060 [l0, l1, l2, l3, l4, l5, l6, l7] L2 St S = ev c 314 2799 [l0, l1, l2, l3, l4, l5, l6, l7] L2 St S := ev_go i314_2060 rfl
theorem i314_2063 : insAt 314 2063 = some (.aload_n 1, 1, (0, 0, 0, 0), 0) := rfl
theorem s314_2063 {c : Nat → List AV → SS → Option Out} {l0 l2 l3 l4 l5 l6 l7 : Option AV} {o : OId} {L2 : List (Nat × AV)} {St : List AV} {S : SS} : ev c 314 2063 [l0, some (aR o), l2, l3, l4, l5, l6, l7] L2 St S = ev c 314 2064 [l0, some (aR o), l2, l3, l4, l5, l6, l7] L2 (aR o :: St) S := ev_go i314_2063 rfl
theorem i314_2064 : insAt 314 2064 = some (.aload_n 0, 1, (0, 0, 0, 0), 0) := rfl
theorem s314_2064 {c : Nat → List AV → SS → Option Out} {l1 l2 l3 l4 l5 l6 l7 : Option AV} {o : OId} {L2 : List (Nat × AV)} {St : List AV} {S : SS} : ev c 314 2064 [some (aR o), l1, l2, l3, l4, l5, l6, l7] L2 St S = ev c 314 2065 [some (aR o), l1, l2, l3, l4, l5, l6, l7] L2 (aR o :: St) S := ev_go i314_2064 rfl
theorem i314_2065 : insAt 314 2065 = some (.iload 5, 2, (0, 0, 0, 0), 0) := rfl
theorem s314_2065 {c : Nat → List AV → SS → Option Out} {l0 l1 l2 l3 l4 l6 l7 : Option AV} {x : Int32} {L2 : List (Nat × AV)} {St : List AV} {S : SS} : ev c 314 2065 [l0, l1, l2, l3, l4, some (aI x), l6, l7] L2 St S = ev c 314 2067 [l0, l1, l2, l3, l4, some (aI x), l6, l7] L2 (aI x :: St) S := ev_go i314_2065 rfl
theorem i314_2067 : insAt 314 2067 = some (.iconst 1, 1, (0, 0, 0, 0), 0) := rfl
theorem s314_2067 {c : Nat → List AV → SS → Option Out} {l0 l1 l2 l3 l4 l5 l6 l7 : Option AV} {L2 : List (Nat × AV)} {St : List AV} {S : SS} : ev c 314 2067 [l0, l1, l2, l3, l4, l5, l6, l7] L2 St S = ev c 314 2068 [l0, l1, l2, l3, l4, l5, l6, l7] L2 (aI 1 :: St) S := ev_go i314_2067 rfl
theorem i314_2068 : insAt 314 2068 = some (.iadd, 1, (0, 0, 0, 0), 0) := rfl
theorem s314_2068 {c : Nat → List AV → SS → Option Out} {l0 l1 l2 l3 l4 l5 l6 l7 : Option AV} {x y : Int32} {L2 : List (Nat × AV)} {St : List AV} {S : SS} : ev c 314 2068 [l0, l1, l2, l3, l4, l5, l6, l7] L2 (aI y :: aI x :: St) S = ev c 314 2069 [l0, l1, l2, l3, l4, l5, l6, l7] L2 (aI (x + y) :: St) S := ev_go i314_2068 rfl
theorem i314_2069 : insAt 314 2069 = some (.iaload, 1, (0, 0, 0, 0), 0) := rfl
theorem s314_2069 {c : Nat → List AV → SS → Option Out} {l0 l1 l2 l3 l4 l5 l6 l7 : Option AV} {i : Int32} {o : OId} {L2 : List (Nat × AV)} {St : List AV} {S : SS} : ev c 314 2069 [l0, l1, l2, l3, l4, l5, l6, l7] L2 (aI i :: aR o :: St) S = kI o i (ev c 314 2070 [l0, l1, l2, l3, l4, l5, l6, l7] L2 (aI (agI S o i.toNatClampNeg) :: St) S) := ev_iaload i314_2069
theorem i314_2070 : insAt 314 2070 = some (.aload_n 0, 1, (0, 0, 0, 0), 0) := rfl
theorem s314_2070 {c : Nat → List AV → SS → Option Out} {l1 l2 l3 l4 l5 l6 l7 : Option AV} {o : OId} {L2 : List (Nat × AV)} {St : List AV} {S : SS} : ev c 314 2070 [some (aR o), l1, l2, l3, l4, l5, l6, l7] L2 St S = ev c 314 2071 [some (aR o), l1, l2, l3, l4, l5, l6, l7] L2 (aR o :: St) S := ev_go i314_2070 rfl
theorem i314_2071 : insAt 314 2071 = some (.iload 5, 2, (0, 0, 0, 0), 0) := rfl
theorem s314_2071 {c : Nat → List AV → SS → Option Out} {l0 l1 l2 l3 l4 l6 l7 : Option AV} {x : Int32} {L2 : List (Nat × AV)} {St : List AV} {S : SS} : ev c 314 2071 [l0, l1, l2, l3, l4, some (aI x), l6, l7] L2 St S = ev c 314 2073 [l0, l1, l2, l3, l4, some (aI x), l6, l7] L2 (aI x :: St) S := ev_go i314_2071 rfl
theorem i314_2073 : insAt 314 2073 = some (.iconst 2, 1, (0, 0, 0, 0), 0) := rfl
theorem s314_2073 {c : Nat → List AV → SS → Option Out} {l0 l1 l2 l3 l4 l5 l6 l7 : Option AV} {L2 : List (Nat × AV)} {St : List AV} {S : SS} : ev c 314 2073 [l0, l1, l2, l3, l4, l5, l6, l7] L2 St S = ev c 314 2074 [l0, l1, l2, l3, l4, l5, l6, l7] L2 (aI 2 :: St) S := ev_go i314_2073 rfl
theorem i314_2074 : insAt 314 2074 = some (.iadd, 1, (0, 0, 0, 0), 0) := rfl
theorem s314_2074 {c : Nat → List AV → SS → Option Out} {l0 l1 l2 l3 l4 l5 l6 l7 : Option AV} {x y : Int32} {L2 : List (Nat × AV)} {St : List AV} {S : SS} : ev c 314 2074 [l0, l1, l2, l3, l4, l5, l6, l7] L2 (aI y :: aI x :: St) S = ev c 314 2075 [l0, l1, l2, l3, l4, l5, l6, l7] L2 (aI (x + y) :: St) S := ev_go i314_2074 rfl
theorem i314_2075 : insAt 314 2075 = some (.iaload, 1, (0, 0, 0, 0), 0) := rfl
theorem s314_2075 {c : Nat → List AV → SS → Option Out} {l0 l1 l2 l3 l4 l5 l6 l7 : Option AV} {i : Int32} {o : OId} {L2 : List (Nat × AV)} {St : List AV} {S : SS} : ev c 314 2075 [l0, l1, l2, l3, l4, l5, l6, l7] L2 (aI i :: aR o :: St) S = kI o i (ev c 314 2076 [l0, l1, l2, l3, l4, l5, l6, l7] L2 (aI (agI S o i.toNatClampNeg) :: St) S) := ev_iaload i314_2075
theorem i314_2076 : insAt 314 2076 = some (.aload_n 3, 1, (0, 0, 0, 0), 0) := rfl
theorem s314_2076 {c : Nat → List AV → SS → Option Out} {l0 l1 l2 l4 l5 l6 l7 : Option AV} {o : OId} {L2 : List (Nat × AV)} {St : List AV} {S : SS} : ev c 314 2076 [l0, l1, l2, some (aR o), l4, l5, l6, l7] L2 St S = ev c 314 2077 [l0, l1, l2, some (aR o), l4, l5, l6, l7] L2 (aR o :: St) S := ev_go i314_2076 rfl
theorem i314_2077 : insAt 314 2077 = some (.invokestatic 268, 3, (150, 4, 0, 0), 0) := rfl
theorem s314_2077 {c : Nat → List AV → SS → Option Out} {l0 l1 l2 l3 l4 l5 l6 l7 : Option AV} {a0 : OId} {a1 : Int32} {a2 : Int32} {a3 : OId} {L2 : List (Nat × AV)} {S : SS} : ev c 314 2077 [l0, l1, l2, l3, l4, l5, l6, l7] L2 [aR a3, aI a2, aI a1, aR a0] S = ck (c 150 [aR a0, aI a1, aI a2, aR a3] S) (fun v S' => ev c 314 2080 [l0, l1, l2, l3, l4, l5, l6, l7] L2 (v.toList ++ []) S') := ev_call i314_2077 rfl
theorem i314_2080 : insAt 314 2080 = some (.istore 6, 2, (0, 0, 0, 0), 0) := rfl
theorem s314_2080 {c : Nat → List AV → SS → Option Out} {l0 l1 l2 l3 l4 l5 l6 l7 : Option AV} {x : Int32} {L2 : List (Nat × AV)} {St : List AV} {S : SS} : ev c 314 2080 [l0, l1, l2, l3, l4, l5, l6, l7] L2 (aI x :: St) S = ev c 314 2082 [l0, l1, l2, l3, l4, l5, some (aI x), l7] (kil L2 6) St S := ev_go i314_2080 rfl
theorem i314_2082 : insAt 314 2082 = some (.aload_n 2, 1, (0, 0, 0, 0), 0) := rfl
theorem s314_2082 {c : Nat → List AV → SS → Option Out} {l0 l1 l3 l4 l5 l6 l7 : Option AV} {o : OId} {L2 : List (Nat × AV)} {St : List AV} {S : SS} : ev c 314 2082 [l0, l1, some (aR o), l3, l4, l5, l6, l7] L2 St S = ev c 314 2083 [l0, l1, some (aR o), l3, l4, l5, l6, l7] L2 (aR o :: St) S := ev_go i314_2082 rfl
theorem i314_2083 : insAt 314 2083 = some (.aload_n 0, 1, (0, 0, 0, 0), 0) := rfl
theorem s314_2083 {c : Nat → List AV → SS → Option Out} {l1 l2 l3 l4 l5 l6 l7 : Option AV} {o : OId} {L2 : List (Nat × AV)} {St : List AV} {S : SS} : ev c 314 2083 [some (aR o), l1, l2, l3, l4, l5, l6, l7] L2 St S = ev c 314 2084 [some (aR o), l1, l2, l3, l4, l5, l6, l7] L2 (aR o :: St) S := ev_go i314_2083 rfl
theorem i314_2084 : insAt 314 2084 = some (.iload 5, 2, (0, 0, 0, 0), 0) := rfl
theorem s314_2084 {c : Nat → List AV → SS → Option Out} {l0 l1 l2 l3 l4 l6 l7 : Option AV} {x : Int32} {L2 : List (Nat × AV)} {St : List AV} {S : SS} : ev c 314 2084 [l0, l1, l2, l3, l4, some (aI x), l6, l7] L2 St S = ev c 314 2086 [l0, l1, l2, l3, l4, some (aI x), l6, l7] L2 (aI x :: St) S := ev_go i314_2084 rfl
theorem i314_2086 : insAt 314 2086 = some (.iconst 1, 1, (0, 0, 0, 0), 0) := rfl
theorem s314_2086 {c : Nat → List AV → SS → Option Out} {l0 l1 l2 l3 l4 l5 l6 l7 : Option AV} {L2 : List (Nat × AV)} {St : List AV} {S : SS} : ev c 314 2086 [l0, l1, l2, l3, l4, l5, l6, l7] L2 St S = ev c 314 2087 [l0, l1, l2, l3, l4, l5, l6, l7] L2 (aI 1 :: St) S := ev_go i314_2086 rfl
theorem i314_2087 : insAt 314 2087 = some (.iadd, 1, (0, 0, 0, 0), 0) := rfl
theorem s314_2087 {c : Nat → List AV → SS → Option Out} {l0 l1 l2 l3 l4 l5 l6 l7 : Option AV} {x y : Int32} {L2 : List (Nat × AV)} {St : List AV} {S : SS} : ev c 314 2087 [l0, l1, l2, l3, l4, l5, l6, l7] L2 (aI y :: aI x :: St) S = ev c 314 2088 [l0, l1, l2, l3, l4, l5, l6, l7] L2 (aI (x + y) :: St) S := ev_go i314_2087 rfl
theorem i314_2088 : insAt 314 2088 = some (.iaload, 1, (0, 0, 0, 0), 0) := rfl
theorem s314_2088 {c : Nat → List AV → SS → Option Out} {l0 l1 l2 l3 l4 l5 l6 l7 : Option AV} {i : Int32} {o : OId} {L2 : List (Nat × AV)} {St : List AV} {S : SS} : ev c 314 2088 [l0, l1, l2, l3, l4, l5, l6, l7] L2 (aI i :: aR o :: St) S = kI o i (ev c 314 2089 [l0, l1, l2, l3, l4, l5, l6, l7] L2 (aI (agI S o i.toNatClampNeg) :: St) S) := ev_iaload i314_2088
theorem i314_2089 : insAt 314 2089 = some (.aload_n 0, 1, (0, 0, 0, 0), 0) := rfl
theorem s314_2089 {c : Nat → List AV → SS → Option Out} {l1 l2 l3 l4 l5 l6 l7 : Option AV} {o : OId} {L2 : List (Nat × AV)} {St : List AV} {S : SS} : ev c 314 2089 [some (aR o), l1, l2, l3, l4, l5, l6, l7] L2 St S = ev c 314 2090 [some (aR o), l1, l2, l3, l4, l5, l6, l7] L2 (aR o :: St) S := ev_go i314_2089 rfl
theorem i314_2090 : insAt 314 2090 = some (.iload 5, 2, (0, 0, 0, 0), 0) := rfl
theorem s314_2090 {c : Nat → List AV → SS → Option Out} {l0 l1 l2 l3 l4 l6 l7 : Option AV} {x : Int32} {L2 : List (Nat × AV)} {St : List AV} {S : SS} : ev c 314 2090 [l0, l1, l2, l3, l4, some (aI x), l6, l7] L2 St S = ev c 314 2092 [l0, l1, l2, l3, l4, some (aI x), l6, l7] L2 (aI x :: St) S := ev_go i314_2090 rfl
theorem i314_2092 : insAt 314 2092 = some (.iconst 2, 1, (0, 0, 0, 0), 0) := rfl
theorem s314_2092 {c : Nat → List AV → SS → Option Out} {l0 l1 l2 l3 l4 l5 l6 l7 : Option AV} {L2 : List (Nat × AV)} {St : List AV} {S : SS} : ev c 314 2092 [l0, l1, l2, l3, l4, l5, l6, l7] L2 St S = ev c 314 2093 [l0, l1, l2, l3, l4, l5, l6, l7] L2 (aI 2 :: St) S := ev_go i314_2092 rfl
theorem i314_2093 : insAt 314 2093 = some (.iadd, 1, (0, 0, 0, 0), 0) := rfl
theorem s314_2093 {c : Nat → List AV → SS → Option Out} {l0 l1 l2 l3 l4 l5 l6 l7 : Option AV} {x y : Int32} {L2 : List (Nat × AV)} {St : List AV} {S : SS} : ev c 314 2093 [l0, l1, l2, l3, l4, l5, l6, l7] L2 (aI y :: aI x :: St) S = ev c 314 2094 [l0, l1, l2, l3, l4, l5, l6, l7] L2 (aI (x + y) :: St) S := ev_go i314_2093 rfl
theorem i314_2094 : insAt 314 2094 = some (.iaload, 1, (0, 0, 0, 0), 0) := rfl
theorem s314_2094 {c : Nat → List AV → SS → Option Out} {l0 l1 l2 l3 l4 l5 l6 l7 : Option AV} {i : Int32} {o : OId} {L2 : List (Nat × AV)} {St : List AV} {S : SS} : ev c 314 2094 [l0, l1, l2, l3, l4, l5, l6, l7] L2 (aI i :: aR o :: St) S = kI o i (ev c 314 2095 [l0, l1, l2, l3, l4, l5, l6, l7] L2 (aI (agI S o i.toNatClampNeg) :: St) S) := ev_iaload i314_2094
theorem i314_2095 : insAt 314 2095 = some (.invokevirtual 270, 3, (290, 2, 2, 12), 0) := rfl
theorem s314_2095 {c : Nat → List AV → SS → Option Out} {l0 l1 l2 l3 l4 l5 l6 l7 : Option AV} {a0 : Int32} {a1 : Int32} {j t : Nat} {L2 : List (Nat × AV)} {S : SS} : ev c 314 2095 [l0, l1, l2, l3, l4, l5, l6, l7] L2 [aI a1, aI a0, aR (12, j, t)] S = ck (c 290 [aR (12, j, t), aI a0, aI a1] S) (fun v S' => ev c 314 2098 [l0, l1, l2, l3, l4, l5, l6, l7] L2 (v.toList ++ []) S') := ev_call i314_2095 rfl
theorem i314_2098 : insAt 314 2098 = some (.istore 7, 2, (0, 0, 0, 0), 0) := rfl
theorem s314_2098 {c : Nat → List AV → SS → Option Out} {l0 l1 l2 l3 l4 l5 l6 l7 : Option AV} {x : Int32} {L2 : List (Nat × AV)} {St : List AV} {S : SS} : ev c 314 2098 [l0, l1, l2, l3, l4, l5, l6, l7] L2 (aI x :: St) S = ev c 314 2100 [l0, l1, l2, l3, l4, l5, l6, some (aI x)] (kil L2 7) St S := ev_go i314_2098 rfl
theorem i314_2100 : insAt 314 2100 = some (.aload_n 2, 1, (0, 0, 0, 0), 0) := rfl
theorem s314_2100 {c : Nat → List AV → SS → Option Out} {l0 l1 l3 l4 l5 l6 l7 : Option AV} {o : OId} {L2 : List (Nat × AV)} {St : List AV} {S : SS} : ev c 314 2100 [l0, l1, some (aR o), l3, l4, l5, l6, l7] L2 St S = ev c 314 2101 [l0, l1, some (aR o), l3, l4, l5, l6, l7] L2 (aR o :: St) S := ev_go i314_2100 rfl
theorem i314_2101 : insAt 314 2101 = some (.invokevirtual 149, 3, (218, 0, 2, 12), 0) := rfl
theorem s314_2101 {c : Nat → List AV → SS → Option Out} {l0 l1 l2 l3 l4 l5 l6 l7 : Option AV} {j t : Nat} {L2 : List (Nat × AV)} {S : SS} : ev c 314 2101 [l0, l1, l2, l3, l4, l5, l6, l7] L2 [aR (12, j, t)] S = ck (c 218 [aR (12, j, t)] S) (fun v S' => ev c 314 2104 [l0, l1, l2, l3, l4, l5, l6, l7] L2 (v.toList ++ []) S') := ev_call i314_2101 rfl
theorem i314_2104 : insAt 314 2104 = some (.iload 6, 2, (0, 0, 0, 0), 0) := rfl
theorem s314_2104 {c : Nat → List AV → SS → Option Out} {l0 l1 l2 l3 l4 l5 l7 : Option AV} {x : Int32} {L2 : List (Nat × AV)} {St : List AV} {S : SS} : ev c 314 2104 [l0, l1, l2, l3, l4, l5, some (aI x), l7] L2 St S = ev c 314 2106 [l0, l1, l2, l3, l4, l5, some (aI x), l7] L2 (aI x :: St) S := ev_go i314_2104 rfl
theorem i314_2106 : insAt 314 2106 = some (.if_icmp .eq 5, 3, (0, 0, 0, 0), 0) := rfl
theorem s314_2106 {c : Nat → List AV → SS → Option Out} {l0 l1 l2 l3 l4 l5 l6 l7 : Option AV} {x y : Int32} {L2 : List (Nat × AV)} {St : List AV} {S : SS} : ev c 314 2106 [l0, l1, l2, l3, l4, l5, l6, l7] L2 (aI y :: aI x :: St) S = if x = y then ev c 314 2111 [l0, l1, l2, l3, l4, l5, l6, l7] L2 St S else ev c 314 2109 [l0, l1, l2, l3, l4, l5, l6, l7] L2 St S := ev_br i314_2106 rfl
theorem i314_2109 : insAt 314 2109 = some (.iconst 0, 1, (0, 0, 0, 0), 0) := rfl
theorem s314_2109 {c : Nat → List AV → SS → Option Out} {l0 l1 l2 l3 l4 l5 l6 l7 : Option AV} {L2 : List (Nat × AV)} {St : List AV} {S : SS} : ev c 314 2109 [l0, l1, l2, l3, l4, l5, l6, l7] L2 St S = ev c 314 2110 [l0, l1, l2, l3, l4, l5, l6, l7] L2 (aI 0 :: St) S := ev_go i314_2109 rfl
theorem i314_2110 : insAt 314 2110 = some (.ireturn, 1, (0, 0, 0, 0), 0) := rfl
theorem s314_2110 {c : Nat → List AV → SS → Option Out} {l0 l1 l2 l3 l4 l5 l6 l7 : Option AV} {x : Int32} {L2 : List (Nat × AV)} {St : List AV} {S : SS} : ev c 314 2110 [l0, l1, l2, l3, l4, l5, l6, l7] L2 [aI x] S = if x = 0 ∨ x = 1 then some (.inl (some (aI x)), S) else none := ev_rt i314_2110 rfl
theorem i314_2111 : insAt 314 2111 = some (.iload 6, 2, (0, 0, 0, 0), 0) := rfl
theorem s314_2111 {c : Nat → List AV → SS → Option Out} {l0 l1 l2 l3 l4 l5 l7 : Option AV} {x : Int32} {L2 : List (Nat × AV)} {St : List AV} {S : SS} : ev c 314 2111 [l0, l1, l2, l3, l4, l5, some (aI x), l7] L2 St S = ev c 314 2113 [l0, l1, l2, l3, l4, l5, some (aI x), l7] L2 (aI x :: St) S := ev_go i314_2111 rfl
theorem i314_2113 : insAt 314 2113 = some (.ifCond .ne 15, 3, (0, 0, 0, 0), 0) := rfl
theorem s314_2113 {c : Nat → List AV → SS → Option Out} {l0 l1 l2 l3 l4 l5 l6 l7 : Option AV} {x : Int32} {L2 : List (Nat × AV)} {St : List AV} {S : SS} : ev c 314 2113 [l0, l1, l2, l3, l4, l5, l6, l7] L2 (aI x :: St) S = if x = 0 then ev c 314 2116 [l0, l1, l2, l3, l4, l5, l6, l7] L2 St S else ev c 314 2128 [l0, l1, l2, l3, l4, l5, l6, l7] L2 St S := (ev_br i314_2113 rfl).trans (ite_not _ _ _)
theorem i314_2116 : insAt 314 2116 = some (.aload_n 3, 1, (0, 0, 0, 0), 0) := rfl
theorem s314_2116 {c : Nat → List AV → SS → Option Out} {l0 l1 l2 l4 l5 l6 l7 : Option AV} {o : OId} {L2 : List (Nat × AV)} {St : List AV} {S : SS} : ev c 314 2116 [l0, l1, l2, some (aR o), l4, l5, l6, l7] L2 St S = ev c 314 2117 [l0, l1, l2, some (aR o), l4, l5, l6, l7] L2 (aR o :: St) S := ev_go i314_2116 rfl
theorem i314_2117 : insAt 314 2117 = some (.iconst 0, 1, (0, 0, 0, 0), 0) := rfl
theorem s314_2117 {c : Nat → List AV → SS → Option Out} {l0 l1 l2 l3 l4 l5 l6 l7 : Option AV} {L2 : List (Nat × AV)} {St : List AV} {S : SS} : ev c 314 2117 [l0, l1, l2, l3, l4, l5, l6, l7] L2 St S = ev c 314 2118 [l0, l1, l2, l3, l4, l5, l6, l7] L2 (aI 0 :: St) S := ev_go i314_2117 rfl
theorem i314_2118 : insAt 314 2118 = some (.laload, 1, (0, 0, 0, 0), 0) := rfl
theorem s314_2118 {c : Nat → List AV → SS → Option Out} {l0 l1 l2 l3 l4 l5 l6 l7 : Option AV} {i : Int32} {o : OId} {L2 : List (Nat × AV)} {St : List AV} {S : SS} : ev c 314 2118 [l0, l1, l2, l3, l4, l5, l6, l7] L2 (aI i :: aR o :: St) S = kJ o i (ev c 314 2119 [l0, l1, l2, l3, l4, l5, l6, l7] L2 (aL (toL (S.2.1 o i.toNatClampNeg)) :: St) S) := ev_laload i314_2118
theorem i314_2119 : insAt 314 2119 = some (.iload 7, 2, (0, 0, 0, 0), 0) := rfl
theorem s314_2119 {c : Nat → List AV → SS → Option Out} {l0 l1 l2 l3 l4 l5 l6 : Option AV} {x : Int32} {L2 : List (Nat × AV)} {St : List AV} {S : SS} : ev c 314 2119 [l0, l1, l2, l3, l4, l5, l6, some (aI x)] L2 St S = ev c 314 2121 [l0, l1, l2, l3, l4, l5, l6, some (aI x)] L2 (aI x :: St) S := ev_go i314_2119 rfl
theorem i314_2121 : insAt 314 2121 = some (.i2l, 1, (0, 0, 0, 0), 0) := rfl
theorem s314_2121 {c : Nat → List AV → SS → Option Out} {l0 l1 l2 l3 l4 l5 l6 l7 : Option AV} {x : Int32} {L2 : List (Nat × AV)} {St : List AV} {S : SS} : ev c 314 2121 [l0, l1, l2, l3, l4, l5, l6, l7] L2 (aI x :: St) S = ev c 314 2122 [l0, l1, l2, l3, l4, l5, l6, l7] L2 (aL x.toInt64 :: St) S := ev_go i314_2121 rfl
theorem i314_2122 : insAt 314 2122 = some (.lcmp, 1, (0, 0, 0, 0), 0) := rfl
theorem s314_2122 {c : Nat → List AV → SS → Option Out} {l0 l1 l2 l3 l4 l5 l6 l7 : Option AV} {x y : Int64} {L2 : List (Nat × AV)} {St : List AV} {S : SS} : ev c 314 2122 [l0, l1, l2, l3, l4, l5, l6, l7] L2 (aL y :: aL x :: St) S = ev c 314 2123 [l0, l1, l2, l3, l4, l5, l6, l7] L2 (aI (if x < y then -1 else if x = y then 0 else 1) :: St) S := ev_go i314_2122 rfl
theorem i314_2123 : insAt 314 2123 = some (.ifCond .eq 5, 3, (0, 0, 0, 0), 0) := rfl
theorem s314_2123 {c : Nat → List AV → SS → Option Out} {l0 l1 l2 l3 l4 l5 l6 l7 : Option AV} {x : Int32} {L2 : List (Nat × AV)} {St : List AV} {S : SS} : ev c 314 2123 [l0, l1, l2, l3, l4, l5, l6, l7] L2 (aI x :: St) S = if x = 0 then ev c 314 2128 [l0, l1, l2, l3, l4, l5, l6, l7] L2 St S else ev c 314 2126 [l0, l1, l2, l3, l4, l5, l6, l7] L2 St S := ev_br i314_2123 rfl
theorem i314_2126 : insAt 314 2126 = some (.iconst 0, 1, (0, 0, 0, 0), 0) := rfl
theorem s314_2126 {c : Nat → List AV → SS → Option Out} {l0 l1 l2 l3 l4 l5 l6 l7 : Option AV} {L2 : List (Nat × AV)} {St : List AV} {S : SS} : ev c 314 2126 [l0, l1, l2, l3, l4, l5, l6, l7] L2 St S = ev c 314 2127 [l0, l1, l2, l3, l4, l5, l6, l7] L2 (aI 0 :: St) S := ev_go i314_2126 rfl
theorem i314_2127 : insAt 314 2127 = some (.ireturn, 1, (0, 0, 0, 0), 0) := rfl
theorem s314_2127 {c : Nat → List AV → SS → Option Out} {l0 l1 l2 l3 l4 l5 l6 l7 : Option AV} {x : Int32} {L2 : List (Nat × AV)} {St : List AV} {S : SS} : ev c 314 2127 [l0, l1, l2, l3, l4, l5, l6, l7] L2 [aI x] S = if x = 0 ∨ x = 1 then some (.inl (some (aI x)), S) else none := ev_rt i314_2127 rfl
theorem i314_2128 : insAt 314 2128 = some (.goto 671, 3, (0, 0, 0, 0), 0) := rfl
theorem s314_2128 {c : Nat → List AV → SS → Option Out} {l0 l1 l2 l3 l4 l5 l6 l7 : Option AV} {L2 : List (Nat × AV)} {St : List AV} {S : SS} : ev c 314 2128 [l0, l1, l2, l3, l4, l5, l6, l7] L2 St S = ev c 314 2799 [l0, l1, l2, l3, l4, l5, l6, l7] L2 St S := ev_go i314_2128 rfl
theorem i314_2131 : insAt 314 2131 = some (.aload_n 1, 1, (0, 0, 0, 0), 0) := rfl
theorem s314_2131 {c : Nat → List AV → SS → Option Out} {l0 l2 l3 l4 l5 l6 l7 : Option AV} {o : OId} {L2 : List (Nat × AV)} {St : List AV} {S : SS} : ev c 314 2131 [l0, some (aR o), l2, l3, l4, l5, l6, l7] L2 St S = ev c 314 2132 [l0, some (aR o), l2, l3, l4, l5, l6, l7] L2 (aR o :: St) S := ev_go i314_2131 rfl
theorem i314_2132 : insAt 314 2132 = some (.aload_n 0, 1, (0, 0, 0, 0), 0) := rfl
theorem s314_2132 {c : Nat → List AV → SS → Option Out} {l1 l2 l3 l4 l5 l6 l7 : Option AV} {o : OId} {L2 : List (Nat × AV)} {St : List AV} {S : SS} : ev c 314 2132 [some (aR o), l1, l2, l3, l4, l5, l6, l7] L2 St S = ev c 314 2133 [some (aR o), l1, l2, l3, l4, l5, l6, l7] L2 (aR o :: St) S := ev_go i314_2132 rfl
theorem i314_2133 : insAt 314 2133 = some (.iload 5, 2, (0, 0, 0, 0), 0) := rfl
theorem s314_2133 {c : Nat → List AV → SS → Option Out} {l0 l1 l2 l3 l4 l6 l7 : Option AV} {x : Int32} {L2 : List (Nat × AV)} {St : List AV} {S : SS} : ev c 314 2133 [l0, l1, l2, l3, l4, some (aI x), l6, l7] L2 St S = ev c 314 2135 [l0, l1, l2, l3, l4, some (aI x), l6, l7] L2 (aI x :: St) S := ev_go i314_2133 rfl
theorem i314_2135 : insAt 314 2135 = some (.iconst 1, 1, (0, 0, 0, 0), 0) := rfl
theorem s314_2135 {c : Nat → List AV → SS → Option Out} {l0 l1 l2 l3 l4 l5 l6 l7 : Option AV} {L2 : List (Nat × AV)} {St : List AV} {S : SS} : ev c 314 2135 [l0, l1, l2, l3, l4, l5, l6, l7] L2 St S = ev c 314 2136 [l0, l1, l2, l3, l4, l5, l6, l7] L2 (aI 1 :: St) S := ev_go i314_2135 rfl
theorem i314_2136 : insAt 314 2136 = some (.iadd, 1, (0, 0, 0, 0), 0) := rfl
theorem s314_2136 {c : Nat → List AV → SS → Option Out} {l0 l1 l2 l3 l4 l5 l6 l7 : Option AV} {x y : Int32} {L2 : List (Nat × AV)} {St : List AV} {S : SS} : ev c 314 2136 [l0, l1, l2, l3, l4, l5, l6, l7] L2 (aI y :: aI x :: St) S = ev c 314 2137 [l0, l1, l2, l3, l4, l5, l6, l7] L2 (aI (x + y) :: St) S := ev_go i314_2136 rfl
theorem i314_2137 : insAt 314 2137 = some (.iaload, 1, (0, 0, 0, 0), 0) := rfl
theorem s314_2137 {c : Nat → List AV → SS → Option Out} {l0 l1 l2 l3 l4 l5 l6 l7 : Option AV} {i : Int32} {o : OId} {L2 : List (Nat × AV)} {St : List AV} {S : SS} : ev c 314 2137 [l0, l1, l2, l3, l4, l5, l6, l7] L2 (aI i :: aR o :: St) S = kI o i (ev c 314 2138 [l0, l1, l2, l3, l4, l5, l6, l7] L2 (aI (agI S o i.toNatClampNeg) :: St) S) := ev_iaload i314_2137
theorem i314_2138 : insAt 314 2138 = some (.aload_n 0, 1, (0, 0, 0, 0), 0) := rfl
theorem s314_2138 {c : Nat → List AV → SS → Option Out} {l1 l2 l3 l4 l5 l6 l7 : Option AV} {o : OId} {L2 : List (Nat × AV)} {St : List AV} {S : SS} : ev c 314 2138 [some (aR o), l1, l2, l3, l4, l5, l6, l7] L2 St S = ev c 314 2139 [some (aR o), l1, l2, l3, l4, l5, l6, l7] L2 (aR o :: St) S := ev_go i314_2138 rfl
theorem i314_2139 : insAt 314 2139 = some (.iload 5, 2, (0, 0, 0, 0), 0) := rfl
theorem s314_2139 {c : Nat → List AV → SS → Option Out} {l0 l1 l2 l3 l4 l6 l7 : Option AV} {x : Int32} {L2 : List (Nat × AV)} {St : List AV} {S : SS} : ev c 314 2139 [l0, l1, l2, l3, l4, some (aI x), l6, l7] L2 St S = ev c 314 2141 [l0, l1, l2, l3, l4, some (aI x), l6, l7] L2 (aI x :: St) S := ev_go i314_2139 rfl
theorem i314_2141 : insAt 314 2141 = some (.iconst 2, 1, (0, 0, 0, 0), 0) := rfl
theorem s314_2141 {c : Nat → List AV → SS → Option Out} {l0 l1 l2 l3 l4 l5 l6 l7 : Option AV} {L2 : List (Nat × AV)} {St : List AV} {S : SS} : ev c 314 2141 [l0, l1, l2, l3, l4, l5, l6, l7] L2 St S = ev c 314 2142 [l0, l1, l2, l3, l4, l5, l6, l7] L2 (aI 2 :: St) S := ev_go i314_2141 rfl
theorem i314_2142 : insAt 314 2142 = some (.iadd, 1, (0, 0, 0, 0), 0) := rfl
theorem s314_2142 {c : Nat → List AV → SS → Option Out} {l0 l1 l2 l3 l4 l5 l6 l7 : Option AV} {x y : Int32} {L2 : List (Nat × AV)} {St : List AV} {S : SS} : ev c 314 2142 [l0, l1, l2, l3, l4, l5, l6, l7] L2 (aI y :: aI x :: St) S = ev c 314 2143 [l0, l1, l2, l3, l4, l5, l6, l7] L2 (aI (x + y) :: St) S := ev_go i314_2142 rfl
theorem i314_2143 : insAt 314 2143 = some (.iaload, 1, (0, 0, 0, 0), 0) := rfl
theorem s314_2143 {c : Nat → List AV → SS → Option Out} {l0 l1 l2 l3 l4 l5 l6 l7 : Option AV} {i : Int32} {o : OId} {L2 : List (Nat × AV)} {St : List AV} {S : SS} : ev c 314 2143 [l0, l1, l2, l3, l4, l5, l6, l7] L2 (aI i :: aR o :: St) S = kI o i (ev c 314 2144 [l0, l1, l2, l3, l4, l5, l6, l7] L2 (aI (agI S o i.toNatClampNeg) :: St) S) := ev_iaload i314_2143
theorem i314_2144 : insAt 314 2144 = some (.aload_n 3, 1, (0, 0, 0, 0), 0) := rfl
theorem s314_2144 {c : Nat → List AV → SS → Option Out} {l0 l1 l2 l4 l5 l6 l7 : Option AV} {o : OId} {L2 : List (Nat × AV)} {St : List AV} {S : SS} : ev c 314 2144 [l0, l1, l2, some (aR o), l4, l5, l6, l7] L2 St S = ev c 314 2145 [l0, l1, l2, some (aR o), l4, l5, l6, l7] L2 (aR o :: St) S := ev_go i314_2144 rfl
theorem i314_2145 : insAt 314 2145 = some (.invokestatic 271, 3, (155, 4, 0, 0), 0) := rfl
theorem s314_2145 {c : Nat → List AV → SS → Option Out} {l0 l1 l2 l3 l4 l5 l6 l7 : Option AV} {a0 : OId} {a1 : Int32} {a2 : Int32} {a3 : OId} {L2 : List (Nat × AV)} {S : SS} : ev c 314 2145 [l0, l1, l2, l3, l4, l5, l6, l7] L2 [aR a3, aI a2, aI a1, aR a0] S = ck (c 155 [aR a0, aI a1, aI a2, aR a3] S) (fun v S' => ev c 314 2148 [l0, l1, l2, l3, l4, l5, l6, l7] L2 (v.toList ++ []) S') := ev_call i314_2145 rfl
theorem i314_2148 : insAt 314 2148 = some (.istore 6, 2, (0, 0, 0, 0), 0) := rfl
theorem s314_2148 {c : Nat → List AV → SS → Option Out} {l0 l1 l2 l3 l4 l5 l6 l7 : Option AV} {x : Int32} {L2 : List (Nat × AV)} {St : List AV} {S : SS} : ev c 314 2148 [l0, l1, l2, l3, l4, l5, l6, l7] L2 (aI x :: St) S = ev c 314 2150 [l0, l1, l2, l3, l4, l5, some (aI x), l7] (kil L2 6) St S := ev_go i314_2148 rfl
theorem i314_2150 : insAt 314 2150 = some (.aload_n 2, 1, (0, 0, 0, 0), 0) := rfl
theorem s314_2150 {c : Nat → List AV → SS → Option Out} {l0 l1 l3 l4 l5 l6 l7 : Option AV} {o : OId} {L2 : List (Nat × AV)} {St : List AV} {S : SS} : ev c 314 2150 [l0, l1, some (aR o), l3, l4, l5, l6, l7] L2 St S = ev c 314 2151 [l0, l1, some (aR o), l3, l4, l5, l6, l7] L2 (aR o :: St) S := ev_go i314_2150 rfl
theorem i314_2151 : insAt 314 2151 = some (.aload_n 0, 1, (0, 0, 0, 0), 0) := rfl
theorem s314_2151 {c : Nat → List AV → SS → Option Out} {l1 l2 l3 l4 l5 l6 l7 : Option AV} {o : OId} {L2 : List (Nat × AV)} {St : List AV} {S : SS} : ev c 314 2151 [some (aR o), l1, l2, l3, l4, l5, l6, l7] L2 St S = ev c 314 2152 [some (aR o), l1, l2, l3, l4, l5, l6, l7] L2 (aR o :: St) S := ev_go i314_2151 rfl
theorem i314_2152 : insAt 314 2152 = some (.iload 5, 2, (0, 0, 0, 0), 0) := rfl
theorem s314_2152 {c : Nat → List AV → SS → Option Out} {l0 l1 l2 l3 l4 l6 l7 : Option AV} {x : Int32} {L2 : List (Nat × AV)} {St : List AV} {S : SS} : ev c 314 2152 [l0, l1, l2, l3, l4, some (aI x), l6, l7] L2 St S = ev c 314 2154 [l0, l1, l2, l3, l4, some (aI x), l6, l7] L2 (aI x :: St) S := ev_go i314_2152 rfl
theorem i314_2154 : insAt 314 2154 = some (.iconst 1, 1, (0, 0, 0, 0), 0) := rfl
theorem s314_2154 {c : Nat → List AV → SS → Option Out} {l0 l1 l2 l3 l4 l5 l6 l7 : Option AV} {L2 : List (Nat × AV)} {St : List AV} {S : SS} : ev c 314 2154 [l0, l1, l2, l3, l4, l5, l6, l7] L2 St S = ev c 314 2155 [l0, l1, l2, l3, l4, l5, l6, l7] L2 (aI 1 :: St) S := ev_go i314_2154 rfl
theorem i314_2155 : insAt 314 2155 = some (.iadd, 1, (0, 0, 0, 0), 0) := rfl
theorem s314_2155 {c : Nat → List AV → SS → Option Out} {l0 l1 l2 l3 l4 l5 l6 l7 : Option AV} {x y : Int32} {L2 : List (Nat × AV)} {St : List AV} {S : SS} : ev c 314 2155 [l0, l1, l2, l3, l4, l5, l6, l7] L2 (aI y :: aI x :: St) S = ev c 314 2156 [l0, l1, l2, l3, l4, l5, l6, l7] L2 (aI (x + y) :: St) S := ev_go i314_2155 rfl
theorem i314_2156 : insAt 314 2156 = some (.iaload, 1, (0, 0, 0, 0), 0) := rfl
theorem s314_2156 {c : Nat → List AV → SS → Option Out} {l0 l1 l2 l3 l4 l5 l6 l7 : Option AV} {i : Int32} {o : OId} {L2 : List (Nat × AV)} {St : List AV} {S : SS} : ev c 314 2156 [l0, l1, l2, l3, l4, l5, l6, l7] L2 (aI i :: aR o :: St) S = kI o i (ev c 314 2157 [l0, l1, l2, l3, l4, l5, l6, l7] L2 (aI (agI S o i.toNatClampNeg) :: St) S) := ev_iaload i314_2156
theorem i314_2157 : insAt 314 2157 = some (.aload_n 0, 1, (0, 0, 0, 0), 0) := rfl
theorem s314_2157 {c : Nat → List AV → SS → Option Out} {l1 l2 l3 l4 l5 l6 l7 : Option AV} {o : OId} {L2 : List (Nat × AV)} {St : List AV} {S : SS} : ev c 314 2157 [some (aR o), l1, l2, l3, l4, l5, l6, l7] L2 St S = ev c 314 2158 [some (aR o), l1, l2, l3, l4, l5, l6, l7] L2 (aR o :: St) S := ev_go i314_2157 rfl
theorem i314_2158 : insAt 314 2158 = some (.iload 5, 2, (0, 0, 0, 0), 0) := rfl
theorem s314_2158 {c : Nat → List AV → SS → Option Out} {l0 l1 l2 l3 l4 l6 l7 : Option AV} {x : Int32} {L2 : List (Nat × AV)} {St : List AV} {S : SS} : ev c 314 2158 [l0, l1, l2, l3, l4, some (aI x), l6, l7] L2 St S = ev c 314 2160 [l0, l1, l2, l3, l4, some (aI x), l6, l7] L2 (aI x :: St) S := ev_go i314_2158 rfl
theorem i314_2160 : insAt 314 2160 = some (.iconst 2, 1, (0, 0, 0, 0), 0) := rfl
theorem s314_2160 {c : Nat → List AV → SS → Option Out} {l0 l1 l2 l3 l4 l5 l6 l7 : Option AV} {L2 : List (Nat × AV)} {St : List AV} {S : SS} : ev c 314 2160 [l0, l1, l2, l3, l4, l5, l6, l7] L2 St S = ev c 314 2161 [l0, l1, l2, l3, l4, l5, l6, l7] L2 (aI 2 :: St) S := ev_go i314_2160 rfl
theorem i314_2161 : insAt 314 2161 = some (.iadd, 1, (0, 0, 0, 0), 0) := rfl
theorem s314_2161 {c : Nat → List AV → SS → Option Out} {l0 l1 l2 l3 l4 l5 l6 l7 : Option AV} {x y : Int32} {L2 : List (Nat × AV)} {St : List AV} {S : SS} : ev c 314 2161 [l0, l1, l2, l3, l4, l5, l6, l7] L2 (aI y :: aI x :: St) S = ev c 314 2162 [l0, l1, l2, l3, l4, l5, l6, l7] L2 (aI (x + y) :: St) S := ev_go i314_2161 rfl
theorem i314_2162 : insAt 314 2162 = some (.iaload, 1, (0, 0, 0, 0), 0) := rfl
theorem s314_2162 {c : Nat → List AV → SS → Option Out} {l0 l1 l2 l3 l4 l5 l6 l7 : Option AV} {i : Int32} {o : OId} {L2 : List (Nat × AV)} {St : List AV} {S : SS} : ev c 314 2162 [l0, l1, l2, l3, l4, l5, l6, l7] L2 (aI i :: aR o :: St) S = kI o i (ev c 314 2163 [l0, l1, l2, l3, l4, l5, l6, l7] L2 (aI (agI S o i.toNatClampNeg) :: St) S) := ev_iaload i314_2162
theorem i314_2163 : insAt 314 2163 = some (.invokevirtual 273, 3, (293, 2, 2, 12), 0) := rfl
theorem s314_2163 {c : Nat → List AV → SS → Option Out} {l0 l1 l2 l3 l4 l5 l6 l7 : Option AV} {a0 : Int32} {a1 : Int32} {j t : Nat} {L2 : List (Nat × AV)} {S : SS} : ev c 314 2163 [l0, l1, l2, l3, l4, l5, l6, l7] L2 [aI a1, aI a0, aR (12, j, t)] S = ck (c 293 [aR (12, j, t), aI a0, aI a1] S) (fun v S' => ev c 314 2166 [l0, l1, l2, l3, l4, l5, l6, l7] L2 (v.toList ++ []) S') := ev_call i314_2163 rfl
theorem i314_2166 : insAt 314 2166 = some (.istore 7, 2, (0, 0, 0, 0), 0) := rfl
theorem s314_2166 {c : Nat → List AV → SS → Option Out} {l0 l1 l2 l3 l4 l5 l6 l7 : Option AV} {x : Int32} {L2 : List (Nat × AV)} {St : List AV} {S : SS} : ev c 314 2166 [l0, l1, l2, l3, l4, l5, l6, l7] L2 (aI x :: St) S = ev c 314 2168 [l0, l1, l2, l3, l4, l5, l6, some (aI x)] (kil L2 7) St S := ev_go i314_2166 rfl
theorem i314_2168 : insAt 314 2168 = some (.aload_n 2, 1, (0, 0, 0, 0), 0) := rfl
theorem s314_2168 {c : Nat → List AV → SS → Option Out} {l0 l1 l3 l4 l5 l6 l7 : Option AV} {o : OId} {L2 : List (Nat × AV)} {St : List AV} {S : SS} : ev c 314 2168 [l0, l1, some (aR o), l3, l4, l5, l6, l7] L2 St S = ev c 314 2169 [l0, l1, some (aR o), l3, l4, l5, l6, l7] L2 (aR o :: St) S := ev_go i314_2168 rfl
theorem i314_2169 : insAt 314 2169 = some (.invokevirtual 149, 3, (218, 0, 2, 12), 0) := rfl
theorem s314_2169 {c : Nat → List AV → SS → Option Out} {l0 l1 l2 l3 l4 l5 l6 l7 : Option AV} {j t : Nat} {L2 : List (Nat × AV)} {S : SS} : ev c 314 2169 [l0, l1, l2, l3, l4, l5, l6, l7] L2 [aR (12, j, t)] S = ck (c 218 [aR (12, j, t)] S) (fun v S' => ev c 314 2172 [l0, l1, l2, l3, l4, l5, l6, l7] L2 (v.toList ++ []) S') := ev_call i314_2169 rfl
theorem i314_2172 : insAt 314 2172 = some (.iload 6, 2, (0, 0, 0, 0), 0) := rfl
theorem s314_2172 {c : Nat → List AV → SS → Option Out} {l0 l1 l2 l3 l4 l5 l7 : Option AV} {x : Int32} {L2 : List (Nat × AV)} {St : List AV} {S : SS} : ev c 314 2172 [l0, l1, l2, l3, l4, l5, some (aI x), l7] L2 St S = ev c 314 2174 [l0, l1, l2, l3, l4, l5, some (aI x), l7] L2 (aI x :: St) S := ev_go i314_2172 rfl
theorem i314_2174 : insAt 314 2174 = some (.if_icmp .eq 5, 3, (0, 0, 0, 0), 0) := rfl
theorem s314_2174 {c : Nat → List AV → SS → Option Out} {l0 l1 l2 l3 l4 l5 l6 l7 : Option AV} {x y : Int32} {L2 : List (Nat × AV)} {St : List AV} {S : SS} : ev c 314 2174 [l0, l1, l2, l3, l4, l5, l6, l7] L2 (aI y :: aI x :: St) S = if x = y then ev c 314 2179 [l0, l1, l2, l3, l4, l5, l6, l7] L2 St S else ev c 314 2177 [l0, l1, l2, l3, l4, l5, l6, l7] L2 St S := ev_br i314_2174 rfl
theorem i314_2177 : insAt 314 2177 = some (.iconst 0, 1, (0, 0, 0, 0), 0) := rfl
theorem s314_2177 {c : Nat → List AV → SS → Option Out} {l0 l1 l2 l3 l4 l5 l6 l7 : Option AV} {L2 : List (Nat × AV)} {St : List AV} {S : SS} : ev c 314 2177 [l0, l1, l2, l3, l4, l5, l6, l7] L2 St S = ev c 314 2178 [l0, l1, l2, l3, l4, l5, l6, l7] L2 (aI 0 :: St) S := ev_go i314_2177 rfl
theorem i314_2178 : insAt 314 2178 = some (.ireturn, 1, (0, 0, 0, 0), 0) := rfl
theorem s314_2178 {c : Nat → List AV → SS → Option Out} {l0 l1 l2 l3 l4 l5 l6 l7 : Option AV} {x : Int32} {L2 : List (Nat × AV)} {St : List AV} {S : SS} : ev c 314 2178 [l0, l1, l2, l3, l4, l5, l6, l7] L2 [aI x] S = if x = 0 ∨ x = 1 then some (.inl (some (aI x)), S) else none := ev_rt i314_2178 rfl
theorem i314_2179 : insAt 314 2179 = some (.iload 6, 2, (0, 0, 0, 0), 0) := rfl
theorem s314_2179 {c : Nat → List AV → SS → Option Out} {l0 l1 l2 l3 l4 l5 l7 : Option AV} {x : Int32} {L2 : List (Nat × AV)} {St : List AV} {S : SS} : ev c 314 2179 [l0, l1, l2, l3, l4, l5, some (aI x), l7] L2 St S = ev c 314 2181 [l0, l1, l2, l3, l4, l5, some (aI x), l7] L2 (aI x :: St) S := ev_go i314_2179 rfl
theorem i314_2181 : insAt 314 2181 = some (.ifCond .ne 15, 3, (0, 0, 0, 0), 0) := rfl
theorem s314_2181 {c : Nat → List AV → SS → Option Out} {l0 l1 l2 l3 l4 l5 l6 l7 : Option AV} {x : Int32} {L2 : List (Nat × AV)} {St : List AV} {S : SS} : ev c 314 2181 [l0, l1, l2, l3, l4, l5, l6, l7] L2 (aI x :: St) S = if x = 0 then ev c 314 2184 [l0, l1, l2, l3, l4, l5, l6, l7] L2 St S else ev c 314 2196 [l0, l1, l2, l3, l4, l5, l6, l7] L2 St S := (ev_br i314_2181 rfl).trans (ite_not _ _ _)
theorem i314_2184 : insAt 314 2184 = some (.aload_n 3, 1, (0, 0, 0, 0), 0) := rfl
theorem s314_2184 {c : Nat → List AV → SS → Option Out} {l0 l1 l2 l4 l5 l6 l7 : Option AV} {o : OId} {L2 : List (Nat × AV)} {St : List AV} {S : SS} : ev c 314 2184 [l0, l1, l2, some (aR o), l4, l5, l6, l7] L2 St S = ev c 314 2185 [l0, l1, l2, some (aR o), l4, l5, l6, l7] L2 (aR o :: St) S := ev_go i314_2184 rfl
theorem i314_2185 : insAt 314 2185 = some (.iconst 0, 1, (0, 0, 0, 0), 0) := rfl
theorem s314_2185 {c : Nat → List AV → SS → Option Out} {l0 l1 l2 l3 l4 l5 l6 l7 : Option AV} {L2 : List (Nat × AV)} {St : List AV} {S : SS} : ev c 314 2185 [l0, l1, l2, l3, l4, l5, l6, l7] L2 St S = ev c 314 2186 [l0, l1, l2, l3, l4, l5, l6, l7] L2 (aI 0 :: St) S := ev_go i314_2185 rfl
theorem i314_2186 : insAt 314 2186 = some (.laload, 1, (0, 0, 0, 0), 0) := rfl
theorem s314_2186 {c : Nat → List AV → SS → Option Out} {l0 l1 l2 l3 l4 l5 l6 l7 : Option AV} {i : Int32} {o : OId} {L2 : List (Nat × AV)} {St : List AV} {S : SS} : ev c 314 2186 [l0, l1, l2, l3, l4, l5, l6, l7] L2 (aI i :: aR o :: St) S = kJ o i (ev c 314 2187 [l0, l1, l2, l3, l4, l5, l6, l7] L2 (aL (toL (S.2.1 o i.toNatClampNeg)) :: St) S) := ev_laload i314_2186
theorem i314_2187 : insAt 314 2187 = some (.iload 7, 2, (0, 0, 0, 0), 0) := rfl
theorem s314_2187 {c : Nat → List AV → SS → Option Out} {l0 l1 l2 l3 l4 l5 l6 : Option AV} {x : Int32} {L2 : List (Nat × AV)} {St : List AV} {S : SS} : ev c 314 2187 [l0, l1, l2, l3, l4, l5, l6, some (aI x)] L2 St S = ev c 314 2189 [l0, l1, l2, l3, l4, l5, l6, some (aI x)] L2 (aI x :: St) S := ev_go i314_2187 rfl
theorem i314_2189 : insAt 314 2189 = some (.i2l, 1, (0, 0, 0, 0), 0) := rfl
theorem s314_2189 {c : Nat → List AV → SS → Option Out} {l0 l1 l2 l3 l4 l5 l6 l7 : Option AV} {x : Int32} {L2 : List (Nat × AV)} {St : List AV} {S : SS} : ev c 314 2189 [l0, l1, l2, l3, l4, l5, l6, l7] L2 (aI x :: St) S = ev c 314 2190 [l0, l1, l2, l3, l4, l5, l6, l7] L2 (aL x.toInt64 :: St) S := ev_go i314_2189 rfl
theorem i314_2190 : insAt 314 2190 = some (.lcmp, 1, (0, 0, 0, 0), 0) := rfl
theorem s314_2190 {c : Nat → List AV → SS → Option Out} {l0 l1 l2 l3 l4 l5 l6 l7 : Option AV} {x y : Int64} {L2 : List (Nat × AV)} {St : List AV} {S : SS} : ev c 314 2190 [l0, l1, l2, l3, l4, l5, l6, l7] L2 (aL y :: aL x :: St) S = ev c 314 2191 [l0, l1, l2, l3, l4, l5, l6, l7] L2 (aI (if x < y then -1 else if x = y then 0 else 1) :: St) S := ev_go i314_2190 rfl
theorem i314_2191 : insAt 314 2191 = some (.ifCond .eq 5, 3, (0, 0, 0, 0), 0) := rfl
theorem s314_2191 {c : Nat → List AV → SS → Option Out} {l0 l1 l2 l3 l4 l5 l6 l7 : Option AV} {x : Int32} {L2 : List (Nat × AV)} {St : List AV} {S : SS} : ev c 314 2191 [l0, l1, l2, l3, l4, l5, l6, l7] L2 (aI x :: St) S = if x = 0 then ev c 314 2196 [l0, l1, l2, l3, l4, l5, l6, l7] L2 St S else ev c 314 2194 [l0, l1, l2, l3, l4, l5, l6, l7] L2 St S := ev_br i314_2191 rfl
theorem i314_2194 : insAt 314 2194 = some (.iconst 0, 1, (0, 0, 0, 0), 0) := rfl
theorem s314_2194 {c : Nat → List AV → SS → Option Out} {l0 l1 l2 l3 l4 l5 l6 l7 : Option AV} {L2 : List (Nat × AV)} {St : List AV} {S : SS} : ev c 314 2194 [l0, l1, l2, l3, l4, l5, l6, l7] L2 St S = ev c 314 2195 [l0, l1, l2, l3, l4, l5, l6, l7] L2 (aI 0 :: St) S := ev_go i314_2194 rfl
theorem i314_2195 : insAt 314 2195 = some (.ireturn, 1, (0, 0, 0, 0), 0) := rfl
theorem s314_2195 {c : Nat → List AV → SS → Option Out} {l0 l1 l2 l3 l4 l5 l6 l7 : Option AV} {x : Int32} {L2 : List (Nat × AV)} {St : List AV} {S : SS} : ev c 314 2195 [l0, l1, l2, l3, l4, l5, l6, l7] L2 [aI x] S = if x = 0 ∨ x = 1 then some (.inl (some (aI x)), S) else none := ev_rt i314_2195 rfl
theorem i314_2196 : insAt 314 2196 = some (.goto 603, 3, (0, 0, 0, 0), 0) := rfl
theorem s314_2196 {c : Nat → List AV → SS → Option Out} {l0 l1 l2 l3 l4 l5 l6 l7 : Option AV} {L2 : List (Nat × AV)} {St : List AV} {S : SS} : ev c 314 2196 [l0, l1, l2, l3, l4, l5, l6, l7] L2 St S = ev c 314 2799 [l0, l1, l2, l3, l4, l5, l6, l7] L2 St S := ev_go i314_2196 rfl
theorem i314_2199 : insAt 314 2199 = some (.aload_n 1, 1, (0, 0, 0, 0), 0) := rfl
theorem s314_2199 {c : Nat → List AV → SS → Option Out} {l0 l2 l3 l4 l5 l6 l7 : Option AV} {o : OId} {L2 : List (Nat × AV)} {St : List AV} {S : SS} : ev c 314 2199 [l0, some (aR o), l2, l3, l4, l5, l6, l7] L2 St S = ev c 314 2200 [l0, some (aR o), l2, l3, l4, l5, l6, l7] L2 (aR o :: St) S := ev_go i314_2199 rfl
theorem i314_2200 : insAt 314 2200 = some (.aload_n 0, 1, (0, 0, 0, 0), 0) := rfl
theorem s314_2200 {c : Nat → List AV → SS → Option Out} {l1 l2 l3 l4 l5 l6 l7 : Option AV} {o : OId} {L2 : List (Nat × AV)} {St : List AV} {S : SS} : ev c 314 2200 [some (aR o), l1, l2, l3, l4, l5, l6, l7] L2 St S = ev c 314 2201 [some (aR o), l1, l2, l3, l4, l5, l6, l7] L2 (aR o :: St) S := ev_go i314_2200 rfl
theorem i314_2201 : insAt 314 2201 = some (.iload 5, 2, (0, 0, 0, 0), 0) := rfl
theorem s314_2201 {c : Nat → List AV → SS → Option Out} {l0 l1 l2 l3 l4 l6 l7 : Option AV} {x : Int32} {L2 : List (Nat × AV)} {St : List AV} {S : SS} : ev c 314 2201 [l0, l1, l2, l3, l4, some (aI x), l6, l7] L2 St S = ev c 314 2203 [l0, l1, l2, l3, l4, some (aI x), l6, l7] L2 (aI x :: St) S := ev_go i314_2201 rfl
theorem i314_2203 : insAt 314 2203 = some (.iconst 1, 1, (0, 0, 0, 0), 0) := rfl
theorem s314_2203 {c : Nat → List AV → SS → Option Out} {l0 l1 l2 l3 l4 l5 l6 l7 : Option AV} {L2 : List (Nat × AV)} {St : List AV} {S : SS} : ev c 314 2203 [l0, l1, l2, l3, l4, l5, l6, l7] L2 St S = ev c 314 2204 [l0, l1, l2, l3, l4, l5, l6, l7] L2 (aI 1 :: St) S := ev_go i314_2203 rfl
theorem i314_2204 : insAt 314 2204 = some (.iadd, 1, (0, 0, 0, 0), 0) := rfl
theorem s314_2204 {c : Nat → List AV → SS → Option Out} {l0 l1 l2 l3 l4 l5 l6 l7 : Option AV} {x y : Int32} {L2 : List (Nat × AV)} {St : List AV} {S : SS} : ev c 314 2204 [l0, l1, l2, l3, l4, l5, l6, l7] L2 (aI y :: aI x :: St) S = ev c 314 2205 [l0, l1, l2, l3, l4, l5, l6, l7] L2 (aI (x + y) :: St) S := ev_go i314_2204 rfl
theorem i314_2205 : insAt 314 2205 = some (.iaload, 1, (0, 0, 0, 0), 0) := rfl
theorem s314_2205 {c : Nat → List AV → SS → Option Out} {l0 l1 l2 l3 l4 l5 l6 l7 : Option AV} {i : Int32} {o : OId} {L2 : List (Nat × AV)} {St : List AV} {S : SS} : ev c 314 2205 [l0, l1, l2, l3, l4, l5, l6, l7] L2 (aI i :: aR o :: St) S = kI o i (ev c 314 2206 [l0, l1, l2, l3, l4, l5, l6, l7] L2 (aI (agI S o i.toNatClampNeg) :: St) S) := ev_iaload i314_2205
theorem i314_2206 : insAt 314 2206 = some (.aload_n 0, 1, (0, 0, 0, 0), 0) := rfl
theorem s314_2206 {c : Nat → List AV → SS → Option Out} {l1 l2 l3 l4 l5 l6 l7 : Option AV} {o : OId} {L2 : List (Nat × AV)} {St : List AV} {S : SS} : ev c 314 2206 [some (aR o), l1, l2, l3, l4, l5, l6, l7] L2 St S = ev c 314 2207 [some (aR o), l1, l2, l3, l4, l5, l6, l7] L2 (aR o :: St) S := ev_go i314_2206 rfl
theorem i314_2207 : insAt 314 2207 = some (.iload 5, 2, (0, 0, 0, 0), 0) := rfl
theorem s314_2207 {c : Nat → List AV → SS → Option Out} {l0 l1 l2 l3 l4 l6 l7 : Option AV} {x : Int32} {L2 : List (Nat × AV)} {St : List AV} {S : SS} : ev c 314 2207 [l0, l1, l2, l3, l4, some (aI x), l6, l7] L2 St S = ev c 314 2209 [l0, l1, l2, l3, l4, some (aI x), l6, l7] L2 (aI x :: St) S := ev_go i314_2207 rfl
theorem i314_2209 : insAt 314 2209 = some (.iconst 2, 1, (0, 0, 0, 0), 0) := rfl
theorem s314_2209 {c : Nat → List AV → SS → Option Out} {l0 l1 l2 l3 l4 l5 l6 l7 : Option AV} {L2 : List (Nat × AV)} {St : List AV} {S : SS} : ev c 314 2209 [l0, l1, l2, l3, l4, l5, l6, l7] L2 St S = ev c 314 2210 [l0, l1, l2, l3, l4, l5, l6, l7] L2 (aI 2 :: St) S := ev_go i314_2209 rfl
theorem i314_2210 : insAt 314 2210 = some (.iadd, 1, (0, 0, 0, 0), 0) := rfl
theorem s314_2210 {c : Nat → List AV → SS → Option Out} {l0 l1 l2 l3 l4 l5 l6 l7 : Option AV} {x y : Int32} {L2 : List (Nat × AV)} {St : List AV} {S : SS} : ev c 314 2210 [l0, l1, l2, l3, l4, l5, l6, l7] L2 (aI y :: aI x :: St) S = ev c 314 2211 [l0, l1, l2, l3, l4, l5, l6, l7] L2 (aI (x + y) :: St) S := ev_go i314_2210 rfl
theorem i314_2211 : insAt 314 2211 = some (.iaload, 1, (0, 0, 0, 0), 0) := rfl
theorem s314_2211 {c : Nat → List AV → SS → Option Out} {l0 l1 l2 l3 l4 l5 l6 l7 : Option AV} {i : Int32} {o : OId} {L2 : List (Nat × AV)} {St : List AV} {S : SS} : ev c 314 2211 [l0, l1, l2, l3, l4, l5, l6, l7] L2 (aI i :: aR o :: St) S = kI o i (ev c 314 2212 [l0, l1, l2, l3, l4, l5, l6, l7] L2 (aI (agI S o i.toNatClampNeg) :: St) S) := ev_iaload i314_2211
theorem i314_2212 : insAt 314 2212 = some (.aload_n 3, 1, (0, 0, 0, 0), 0) := rfl
theorem s314_2212 {c : Nat → List AV → SS → Option Out} {l0 l1 l2 l4 l5 l6 l7 : Option AV} {o : OId} {L2 : List (Nat × AV)} {St : List AV} {S : SS} : ev c 314 2212 [l0, l1, l2, some (aR o), l4, l5, l6, l7] L2 St S = ev c 314 2213 [l0, l1, l2, some (aR o), l4, l5, l6, l7] L2 (aR o :: St) S := ev_go i314_2212 rfl
theorem i314_2213 : insAt 314 2213 = some (.invokestatic 274, 3, (157, 4, 0, 0), 0) := rfl
theorem s314_2213 {c : Nat → List AV → SS → Option Out} {l0 l1 l2 l3 l4 l5 l6 l7 : Option AV} {a0 : OId} {a1 : Int32} {a2 : Int32} {a3 : OId} {L2 : List (Nat × AV)} {S : SS} : ev c 314 2213 [l0, l1, l2, l3, l4, l5, l6, l7] L2 [aR a3, aI a2, aI a1, aR a0] S = ck (c 157 [aR a0, aI a1, aI a2, aR a3] S) (fun v S' => ev c 314 2216 [l0, l1, l2, l3, l4, l5, l6, l7] L2 (v.toList ++ []) S') := ev_call i314_2213 rfl
theorem i314_2216 : insAt 314 2216 = some (.istore 6, 2, (0, 0, 0, 0), 0) := rfl
theorem s314_2216 {c : Nat → List AV → SS → Option Out} {l0 l1 l2 l3 l4 l5 l6 l7 : Option AV} {x : Int32} {L2 : List (Nat × AV)} {St : List AV} {S : SS} : ev c 314 2216 [l0, l1, l2, l3, l4, l5, l6, l7] L2 (aI x :: St) S = ev c 314 2218 [l0, l1, l2, l3, l4, l5, some (aI x), l7] (kil L2 6) St S := ev_go i314_2216 rfl
theorem i314_2218 : insAt 314 2218 = some (.aload_n 2, 1, (0, 0, 0, 0), 0) := rfl
theorem s314_2218 {c : Nat → List AV → SS → Option Out} {l0 l1 l3 l4 l5 l6 l7 : Option AV} {o : OId} {L2 : List (Nat × AV)} {St : List AV} {S : SS} : ev c 314 2218 [l0, l1, some (aR o), l3, l4, l5, l6, l7] L2 St S = ev c 314 2219 [l0, l1, some (aR o), l3, l4, l5, l6, l7] L2 (aR o :: St) S := ev_go i314_2218 rfl
theorem i314_2219 : insAt 314 2219 = some (.aload_n 0, 1, (0, 0, 0, 0), 0) := rfl
theorem s314_2219 {c : Nat → List AV → SS → Option Out} {l1 l2 l3 l4 l5 l6 l7 : Option AV} {o : OId} {L2 : List (Nat × AV)} {St : List AV} {S : SS} : ev c 314 2219 [some (aR o), l1, l2, l3, l4, l5, l6, l7] L2 St S = ev c 314 2220 [some (aR o), l1, l2, l3, l4, l5, l6, l7] L2 (aR o :: St) S := ev_go i314_2219 rfl
theorem i314_2220 : insAt 314 2220 = some (.iload 5, 2, (0, 0, 0, 0), 0) := rfl
theorem s314_2220 {c : Nat → List AV → SS → Option Out} {l0 l1 l2 l3 l4 l6 l7 : Option AV} {x : Int32} {L2 : List (Nat × AV)} {St : List AV} {S : SS} : ev c 314 2220 [l0, l1, l2, l3, l4, some (aI x), l6, l7] L2 St S = ev c 314 2222 [l0, l1, l2, l3, l4, some (aI x), l6, l7] L2 (aI x :: St) S := ev_go i314_2220 rfl
theorem i314_2222 : insAt 314 2222 = some (.iconst 1, 1, (0, 0, 0, 0), 0) := rfl
theorem s314_2222 {c : Nat → List AV → SS → Option Out} {l0 l1 l2 l3 l4 l5 l6 l7 : Option AV} {L2 : List (Nat × AV)} {St : List AV} {S : SS} : ev c 314 2222 [l0, l1, l2, l3, l4, l5, l6, l7] L2 St S = ev c 314 2223 [l0, l1, l2, l3, l4, l5, l6, l7] L2 (aI 1 :: St) S := ev_go i314_2222 rfl
theorem i314_2223 : insAt 314 2223 = some (.iadd, 1, (0, 0, 0, 0), 0) := rfl
theorem s314_2223 {c : Nat → List AV → SS → Option Out} {l0 l1 l2 l3 l4 l5 l6 l7 : Option AV} {x y : Int32} {L2 : List (Nat × AV)} {St : List AV} {S : SS} : ev c 314 2223 [l0, l1, l2, l3, l4, l5, l6, l7] L2 (aI y :: aI x :: St) S = ev c 314 2224 [l0, l1, l2, l3, l4, l5, l6, l7] L2 (aI (x + y) :: St) S := ev_go i314_2223 rfl
theorem i314_2224 : insAt 314 2224 = some (.iaload, 1, (0, 0, 0, 0), 0) := rfl
theorem s314_2224 {c : Nat → List AV → SS → Option Out} {l0 l1 l2 l3 l4 l5 l6 l7 : Option AV} {i : Int32} {o : OId} {L2 : List (Nat × AV)} {St : List AV} {S : SS} : ev c 314 2224 [l0, l1, l2, l3, l4, l5, l6, l7] L2 (aI i :: aR o :: St) S = kI o i (ev c 314 2225 [l0, l1, l2, l3, l4, l5, l6, l7] L2 (aI (agI S o i.toNatClampNeg) :: St) S) := ev_iaload i314_2224
theorem i314_2225 : insAt 314 2225 = some (.aload_n 0, 1, (0, 0, 0, 0), 0) := rfl
theorem s314_2225 {c : Nat → List AV → SS → Option Out} {l1 l2 l3 l4 l5 l6 l7 : Option AV} {o : OId} {L2 : List (Nat × AV)} {St : List AV} {S : SS} : ev c 314 2225 [some (aR o), l1, l2, l3, l4, l5, l6, l7] L2 St S = ev c 314 2226 [some (aR o), l1, l2, l3, l4, l5, l6, l7] L2 (aR o :: St) S := ev_go i314_2225 rfl
theorem i314_2226 : insAt 314 2226 = some (.iload 5, 2, (0, 0, 0, 0), 0) := rfl
theorem s314_2226 {c : Nat → List AV → SS → Option Out} {l0 l1 l2 l3 l4 l6 l7 : Option AV} {x : Int32} {L2 : List (Nat × AV)} {St : List AV} {S : SS} : ev c 314 2226 [l0, l1, l2, l3, l4, some (aI x), l6, l7] L2 St S = ev c 314 2228 [l0, l1, l2, l3, l4, some (aI x), l6, l7] L2 (aI x :: St) S := ev_go i314_2226 rfl
theorem i314_2228 : insAt 314 2228 = some (.iconst 2, 1, (0, 0, 0, 0), 0) := rfl
theorem s314_2228 {c : Nat → List AV → SS → Option Out} {l0 l1 l2 l3 l4 l5 l6 l7 : Option AV} {L2 : List (Nat × AV)} {St : List AV} {S : SS} : ev c 314 2228 [l0, l1, l2, l3, l4, l5, l6, l7] L2 St S = ev c 314 2229 [l0, l1, l2, l3, l4, l5, l6, l7] L2 (aI 2 :: St) S := ev_go i314_2228 rfl
theorem i314_2229 : insAt 314 2229 = some (.iadd, 1, (0, 0, 0, 0), 0) := rfl
theorem s314_2229 {c : Nat → List AV → SS → Option Out} {l0 l1 l2 l3 l4 l5 l6 l7 : Option AV} {x y : Int32} {L2 : List (Nat × AV)} {St : List AV} {S : SS} : ev c 314 2229 [l0, l1, l2, l3, l4, l5, l6, l7] L2 (aI y :: aI x :: St) S = ev c 314 2230 [l0, l1, l2, l3, l4, l5, l6, l7] L2 (aI (x + y) :: St) S := ev_go i314_2229 rfl
theorem i314_2230 : insAt 314 2230 = some (.iaload, 1, (0, 0, 0, 0), 0) := rfl
theorem s314_2230 {c : Nat → List AV → SS → Option Out} {l0 l1 l2 l3 l4 l5 l6 l7 : Option AV} {i : Int32} {o : OId} {L2 : List (Nat × AV)} {St : List AV} {S : SS} : ev c 314 2230 [l0, l1, l2, l3, l4, l5, l6, l7] L2 (aI i :: aR o :: St) S = kI o i (ev c 314 2231 [l0, l1, l2, l3, l4, l5, l6, l7] L2 (aI (agI S o i.toNatClampNeg) :: St) S) := ev_iaload i314_2230
theorem i314_2231 : insAt 314 2231 = some (.invokevirtual 276, 3, (294, 2, 2, 12), 0) := rfl
theorem s314_2231 {c : Nat → List AV → SS → Option Out} {l0 l1 l2 l3 l4 l5 l6 l7 : Option AV} {a0 : Int32} {a1 : Int32} {j t : Nat} {L2 : List (Nat × AV)} {S : SS} : ev c 314 2231 [l0, l1, l2, l3, l4, l5, l6, l7] L2 [aI a1, aI a0, aR (12, j, t)] S = ck (c 294 [aR (12, j, t), aI a0, aI a1] S) (fun v S' => ev c 314 2234 [l0, l1, l2, l3, l4, l5, l6, l7] L2 (v.toList ++ []) S') := ev_call i314_2231 rfl
theorem i314_2234 : insAt 314 2234 = some (.istore 7, 2, (0, 0, 0, 0), 0) := rfl
theorem s314_2234 {c : Nat → List AV → SS → Option Out} {l0 l1 l2 l3 l4 l5 l6 l7 : Option AV} {x : Int32} {L2 : List (Nat × AV)} {St : List AV} {S : SS} : ev c 314 2234 [l0, l1, l2, l3, l4, l5, l6, l7] L2 (aI x :: St) S = ev c 314 2236 [l0, l1, l2, l3, l4, l5, l6, some (aI x)] (kil L2 7) St S := ev_go i314_2234 rfl
theorem i314_2236 : insAt 314 2236 = some (.aload_n 2, 1, (0, 0, 0, 0), 0) := rfl
theorem s314_2236 {c : Nat → List AV → SS → Option Out} {l0 l1 l3 l4 l5 l6 l7 : Option AV} {o : OId} {L2 : List (Nat × AV)} {St : List AV} {S : SS} : ev c 314 2236 [l0, l1, some (aR o), l3, l4, l5, l6, l7] L2 St S = ev c 314 2237 [l0, l1, some (aR o), l3, l4, l5, l6, l7] L2 (aR o :: St) S := ev_go i314_2236 rfl
theorem i314_2237 : insAt 314 2237 = some (.invokevirtual 149, 3, (218, 0, 2, 12), 0) := rfl
theorem s314_2237 {c : Nat → List AV → SS → Option Out} {l0 l1 l2 l3 l4 l5 l6 l7 : Option AV} {j t : Nat} {L2 : List (Nat × AV)} {S : SS} : ev c 314 2237 [l0, l1, l2, l3, l4, l5, l6, l7] L2 [aR (12, j, t)] S = ck (c 218 [aR (12, j, t)] S) (fun v S' => ev c 314 2240 [l0, l1, l2, l3, l4, l5, l6, l7] L2 (v.toList ++ []) S') := ev_call i314_2237 rfl
theorem i314_2240 : insAt 314 2240 = some (.iload 6, 2, (0, 0, 0, 0), 0) := rfl
theorem s314_2240 {c : Nat → List AV → SS → Option Out} {l0 l1 l2 l3 l4 l5 l7 : Option AV} {x : Int32} {L2 : List (Nat × AV)} {St : List AV} {S : SS} : ev c 314 2240 [l0, l1, l2, l3, l4, l5, some (aI x), l7] L2 St S = ev c 314 2242 [l0, l1, l2, l3, l4, l5, some (aI x), l7] L2 (aI x :: St) S := ev_go i314_2240 rfl
theorem i314_2242 : insAt 314 2242 = some (.if_icmp .eq 5, 3, (0, 0, 0, 0), 0) := rfl
theorem s314_2242 {c : Nat → List AV → SS → Option Out} {l0 l1 l2 l3 l4 l5 l6 l7 : Option AV} {x y : Int32} {L2 : List (Nat × AV)} {St : List AV} {S : SS} : ev c 314 2242 [l0, l1, l2, l3, l4, l5, l6, l7] L2 (aI y :: aI x :: St) S = if x = y then ev c 314 2247 [l0, l1, l2, l3, l4, l5, l6, l7] L2 St S else ev c 314 2245 [l0, l1, l2, l3, l4, l5, l6, l7] L2 St S := ev_br i314_2242 rfl
theorem i314_2245 : insAt 314 2245 = some (.iconst 0, 1, (0, 0, 0, 0), 0) := rfl
theorem s314_2245 {c : Nat → List AV → SS → Option Out} {l0 l1 l2 l3 l4 l5 l6 l7 : Option AV} {L2 : List (Nat × AV)} {St : List AV} {S : SS} : ev c 314 2245 [l0, l1, l2, l3, l4, l5, l6, l7] L2 St S = ev c 314 2246 [l0, l1, l2, l3, l4, l5, l6, l7] L2 (aI 0 :: St) S := ev_go i314_2245 rfl
theorem i314_2246 : insAt 314 2246 = some (.ireturn, 1, (0, 0, 0, 0), 0) := rfl
theorem s314_2246 {c : Nat → List AV → SS → Option Out} {l0 l1 l2 l3 l4 l5 l6 l7 : Option AV} {x : Int32} {L2 : List (Nat × AV)} {St : List AV} {S : SS} : ev c 314 2246 [l0, l1, l2, l3, l4, l5, l6, l7] L2 [aI x] S = if x = 0 ∨ x = 1 then some (.inl (some (aI x)), S) else none := ev_rt i314_2246 rfl
theorem i314_2247 : insAt 314 2247 = some (.iload 6, 2, (0, 0, 0, 0), 0) := rfl
theorem s314_2247 {c : Nat → List AV → SS → Option Out} {l0 l1 l2 l3 l4 l5 l7 : Option AV} {x : Int32} {L2 : List (Nat × AV)} {St : List AV} {S : SS} : ev c 314 2247 [l0, l1, l2, l3, l4, l5, some (aI x), l7] L2 St S = ev c 314 2249 [l0, l1, l2, l3, l4, l5, some (aI x), l7] L2 (aI x :: St) S := ev_go i314_2247 rfl
theorem i314_2249 : insAt 314 2249 = some (.ifCond .ne 15, 3, (0, 0, 0, 0), 0) := rfl
theorem s314_2249 {c : Nat → List AV → SS → Option Out} {l0 l1 l2 l3 l4 l5 l6 l7 : Option AV} {x : Int32} {L2 : List (Nat × AV)} {St : List AV} {S : SS} : ev c 314 2249 [l0, l1, l2, l3, l4, l5, l6, l7] L2 (aI x :: St) S = if x = 0 then ev c 314 2252 [l0, l1, l2, l3, l4, l5, l6, l7] L2 St S else ev c 314 2264 [l0, l1, l2, l3, l4, l5, l6, l7] L2 St S := (ev_br i314_2249 rfl).trans (ite_not _ _ _)
theorem i314_2252 : insAt 314 2252 = some (.aload_n 3, 1, (0, 0, 0, 0), 0) := rfl
theorem s314_2252 {c : Nat → List AV → SS → Option Out} {l0 l1 l2 l4 l5 l6 l7 : Option AV} {o : OId} {L2 : List (Nat × AV)} {St : List AV} {S : SS} : ev c 314 2252 [l0, l1, l2, some (aR o), l4, l5, l6, l7] L2 St S = ev c 314 2253 [l0, l1, l2, some (aR o), l4, l5, l6, l7] L2 (aR o :: St) S := ev_go i314_2252 rfl
theorem i314_2253 : insAt 314 2253 = some (.iconst 0, 1, (0, 0, 0, 0), 0) := rfl
theorem s314_2253 {c : Nat → List AV → SS → Option Out} {l0 l1 l2 l3 l4 l5 l6 l7 : Option AV} {L2 : List (Nat × AV)} {St : List AV} {S : SS} : ev c 314 2253 [l0, l1, l2, l3, l4, l5, l6, l7] L2 St S = ev c 314 2254 [l0, l1, l2, l3, l4, l5, l6, l7] L2 (aI 0 :: St) S := ev_go i314_2253 rfl
theorem i314_2254 : insAt 314 2254 = some (.laload, 1, (0, 0, 0, 0), 0) := rfl
theorem s314_2254 {c : Nat → List AV → SS → Option Out} {l0 l1 l2 l3 l4 l5 l6 l7 : Option AV} {i : Int32} {o : OId} {L2 : List (Nat × AV)} {St : List AV} {S : SS} : ev c 314 2254 [l0, l1, l2, l3, l4, l5, l6, l7] L2 (aI i :: aR o :: St) S = kJ o i (ev c 314 2255 [l0, l1, l2, l3, l4, l5, l6, l7] L2 (aL (toL (S.2.1 o i.toNatClampNeg)) :: St) S) := ev_laload i314_2254
theorem i314_2255 : insAt 314 2255 = some (.iload 7, 2, (0, 0, 0, 0), 0) := rfl
theorem s314_2255 {c : Nat → List AV → SS → Option Out} {l0 l1 l2 l3 l4 l5 l6 : Option AV} {x : Int32} {L2 : List (Nat × AV)} {St : List AV} {S : SS} : ev c 314 2255 [l0, l1, l2, l3, l4, l5, l6, some (aI x)] L2 St S = ev c 314 2257 [l0, l1, l2, l3, l4, l5, l6, some (aI x)] L2 (aI x :: St) S := ev_go i314_2255 rfl
theorem i314_2257 : insAt 314 2257 = some (.i2l, 1, (0, 0, 0, 0), 0) := rfl
theorem s314_2257 {c : Nat → List AV → SS → Option Out} {l0 l1 l2 l3 l4 l5 l6 l7 : Option AV} {x : Int32} {L2 : List (Nat × AV)} {St : List AV} {S : SS} : ev c 314 2257 [l0, l1, l2, l3, l4, l5, l6, l7] L2 (aI x :: St) S = ev c 314 2258 [l0, l1, l2, l3, l4, l5, l6, l7] L2 (aL x.toInt64 :: St) S := ev_go i314_2257 rfl
theorem i314_2258 : insAt 314 2258 = some (.lcmp, 1, (0, 0, 0, 0), 0) := rfl
theorem s314_2258 {c : Nat → List AV → SS → Option Out} {l0 l1 l2 l3 l4 l5 l6 l7 : Option AV} {x y : Int64} {L2 : List (Nat × AV)} {St : List AV} {S : SS} : ev c 314 2258 [l0, l1, l2, l3, l4, l5, l6, l7] L2 (aL y :: aL x :: St) S = ev c 314 2259 [l0, l1, l2, l3, l4, l5, l6, l7] L2 (aI (if x < y then -1 else if x = y then 0 else 1) :: St) S := ev_go i314_2258 rfl
theorem i314_2259 : insAt 314 2259 = some (.ifCond .eq 5, 3, (0, 0, 0, 0), 0) := rfl
theorem s314_2259 {c : Nat → List AV → SS → Option Out} {l0 l1 l2 l3 l4 l5 l6 l7 : Option AV} {x : Int32} {L2 : List (Nat × AV)} {St : List AV} {S : SS} : ev c 314 2259 [l0, l1, l2, l3, l4, l5, l6, l7] L2 (aI x :: St) S = if x = 0 then ev c 314 2264 [l0, l1, l2, l3, l4, l5, l6, l7] L2 St S else ev c 314 2262 [l0, l1, l2, l3, l4, l5, l6, l7] L2 St S := ev_br i314_2259 rfl
theorem i314_2262 : insAt 314 2262 = some (.iconst 0, 1, (0, 0, 0, 0), 0) := rfl
theorem s314_2262 {c : Nat → List AV → SS → Option Out} {l0 l1 l2 l3 l4 l5 l6 l7 : Option AV} {L2 : List (Nat × AV)} {St : List AV} {S : SS} : ev c 314 2262 [l0, l1, l2, l3, l4, l5, l6, l7] L2 St S = ev c 314 2263 [l0, l1, l2, l3, l4, l5, l6, l7] L2 (aI 0 :: St) S := ev_go i314_2262 rfl
theorem i314_2263 : insAt 314 2263 = some (.ireturn, 1, (0, 0, 0, 0), 0) := rfl
theorem s314_2263 {c : Nat → List AV → SS → Option Out} {l0 l1 l2 l3 l4 l5 l6 l7 : Option AV} {x : Int32} {L2 : List (Nat × AV)} {St : List AV} {S : SS} : ev c 314 2263 [l0, l1, l2, l3, l4, l5, l6, l7] L2 [aI x] S = if x = 0 ∨ x = 1 then some (.inl (some (aI x)), S) else none := ev_rt i314_2263 rfl
theorem i314_2264 : insAt 314 2264 = some (.goto 535, 3, (0, 0, 0, 0), 0) := rfl
theorem s314_2264 {c : Nat → List AV → SS → Option Out} {l0 l1 l2 l3 l4 l5 l6 l7 : Option AV} {L2 : List (Nat × AV)} {St : List AV} {S : SS} : ev c 314 2264 [l0, l1, l2, l3, l4, l5, l6, l7] L2 St S = ev c 314 2799 [l0, l1, l2, l3, l4, l5, l6, l7] L2 St S := ev_go i314_2264 rfl
theorem i314_2267 : insAt 314 2267 = some (.aload_n 1, 1, (0, 0, 0, 0), 0) := rfl
theorem s314_2267 {c : Nat → List AV → SS → Option Out} {l0 l2 l3 l4 l5 l6 l7 : Option AV} {o : OId} {L2 : List (Nat × AV)} {St : List AV} {S : SS} : ev c 314 2267 [l0, some (aR o), l2, l3, l4, l5, l6, l7] L2 St S = ev c 314 2268 [l0, some (aR o), l2, l3, l4, l5, l6, l7] L2 (aR o :: St) S := ev_go i314_2267 rfl
theorem i314_2268 : insAt 314 2268 = some (.aload_n 0, 1, (0, 0, 0, 0), 0) := rfl
theorem s314_2268 {c : Nat → List AV → SS → Option Out} {l1 l2 l3 l4 l5 l6 l7 : Option AV} {o : OId} {L2 : List (Nat × AV)} {St : List AV} {S : SS} : ev c 314 2268 [some (aR o), l1, l2, l3, l4, l5, l6, l7] L2 St S = ev c 314 2269 [some (aR o), l1, l2, l3, l4, l5, l6, l7] L2 (aR o :: St) S := ev_go i314_2268 rfl
theorem i314_2269 : insAt 314 2269 = some (.iload 5, 2, (0, 0, 0, 0), 0) := rfl
theorem s314_2269 {c : Nat → List AV → SS → Option Out} {l0 l1 l2 l3 l4 l6 l7 : Option AV} {x : Int32} {L2 : List (Nat × AV)} {St : List AV} {S : SS} : ev c 314 2269 [l0, l1, l2, l3, l4, some (aI x), l6, l7] L2 St S = ev c 314 2271 [l0, l1, l2, l3, l4, some (aI x), l6, l7] L2 (aI x :: St) S := ev_go i314_2269 rfl
theorem i314_2271 : insAt 314 2271 = some (.iconst 1, 1, (0, 0, 0, 0), 0) := rfl
theorem s314_2271 {c : Nat → List AV → SS → Option Out} {l0 l1 l2 l3 l4 l5 l6 l7 : Option AV} {L2 : List (Nat × AV)} {St : List AV} {S : SS} : ev c 314 2271 [l0, l1, l2, l3, l4, l5, l6, l7] L2 St S = ev c 314 2272 [l0, l1, l2, l3, l4, l5, l6, l7] L2 (aI 1 :: St) S := ev_go i314_2271 rfl
theorem i314_2272 : insAt 314 2272 = some (.iadd, 1, (0, 0, 0, 0), 0) := rfl
theorem s314_2272 {c : Nat → List AV → SS → Option Out} {l0 l1 l2 l3 l4 l5 l6 l7 : Option AV} {x y : Int32} {L2 : List (Nat × AV)} {St : List AV} {S : SS} : ev c 314 2272 [l0, l1, l2, l3, l4, l5, l6, l7] L2 (aI y :: aI x :: St) S = ev c 314 2273 [l0, l1, l2, l3, l4, l5, l6, l7] L2 (aI (x + y) :: St) S := ev_go i314_2272 rfl
theorem i314_2273 : insAt 314 2273 = some (.iaload, 1, (0, 0, 0, 0), 0) := rfl
theorem s314_2273 {c : Nat → List AV → SS → Option Out} {l0 l1 l2 l3 l4 l5 l6 l7 : Option AV} {i : Int32} {o : OId} {L2 : List (Nat × AV)} {St : List AV} {S : SS} : ev c 314 2273 [l0, l1, l2, l3, l4, l5, l6, l7] L2 (aI i :: aR o :: St) S = kI o i (ev c 314 2274 [l0, l1, l2, l3, l4, l5, l6, l7] L2 (aI (agI S o i.toNatClampNeg) :: St) S) := ev_iaload i314_2273
theorem i314_2274 : insAt 314 2274 = some (.aload_n 0, 1, (0, 0, 0, 0), 0) := rfl
theorem s314_2274 {c : Nat → List AV → SS → Option Out} {l1 l2 l3 l4 l5 l6 l7 : Option AV} {o : OId} {L2 : List (Nat × AV)} {St : List AV} {S : SS} : ev c 314 2274 [some (aR o), l1, l2, l3, l4, l5, l6, l7] L2 St S = ev c 314 2275 [some (aR o), l1, l2, l3, l4, l5, l6, l7] L2 (aR o :: St) S := ev_go i314_2274 rfl
theorem i314_2275 : insAt 314 2275 = some (.iload 5, 2, (0, 0, 0, 0), 0) := rfl
theorem s314_2275 {c : Nat → List AV → SS → Option Out} {l0 l1 l2 l3 l4 l6 l7 : Option AV} {x : Int32} {L2 : List (Nat × AV)} {St : List AV} {S : SS} : ev c 314 2275 [l0, l1, l2, l3, l4, some (aI x), l6, l7] L2 St S = ev c 314 2277 [l0, l1, l2, l3, l4, some (aI x), l6, l7] L2 (aI x :: St) S := ev_go i314_2275 rfl
theorem i314_2277 : insAt 314 2277 = some (.iconst 2, 1, (0, 0, 0, 0), 0) := rfl
theorem s314_2277 {c : Nat → List AV → SS → Option Out} {l0 l1 l2 l3 l4 l5 l6 l7 : Option AV} {L2 : List (Nat × AV)} {St : List AV} {S : SS} : ev c 314 2277 [l0, l1, l2, l3, l4, l5, l6, l7] L2 St S = ev c 314 2278 [l0, l1, l2, l3, l4, l5, l6, l7] L2 (aI 2 :: St) S := ev_go i314_2277 rfl
theorem i314_2278 : insAt 314 2278 = some (.iadd, 1, (0, 0, 0, 0), 0) := rfl
theorem s314_2278 {c : Nat → List AV → SS → Option Out} {l0 l1 l2 l3 l4 l5 l6 l7 : Option AV} {x y : Int32} {L2 : List (Nat × AV)} {St : List AV} {S : SS} : ev c 314 2278 [l0, l1, l2, l3, l4, l5, l6, l7] L2 (aI y :: aI x :: St) S = ev c 314 2279 [l0, l1, l2, l3, l4, l5, l6, l7] L2 (aI (x + y) :: St) S := ev_go i314_2278 rfl
theorem i314_2279 : insAt 314 2279 = some (.iaload, 1, (0, 0, 0, 0), 0) := rfl
theorem s314_2279 {c : Nat → List AV → SS → Option Out} {l0 l1 l2 l3 l4 l5 l6 l7 : Option AV} {i : Int32} {o : OId} {L2 : List (Nat × AV)} {St : List AV} {S : SS} : ev c 314 2279 [l0, l1, l2, l3, l4, l5, l6, l7] L2 (aI i :: aR o :: St) S = kI o i (ev c 314 2280 [l0, l1, l2, l3, l4, l5, l6, l7] L2 (aI (agI S o i.toNatClampNeg) :: St) S) := ev_iaload i314_2279
theorem i314_2280 : insAt 314 2280 = some (.aload_n 3, 1, (0, 0, 0, 0), 0) := rfl
theorem s314_2280 {c : Nat → List AV → SS → Option Out} {l0 l1 l2 l4 l5 l6 l7 : Option AV} {o : OId} {L2 : List (Nat × AV)} {St : List AV} {S : SS} : ev c 314 2280 [l0, l1, l2, some (aR o), l4, l5, l6, l7] L2 St S = ev c 314 2281 [l0, l1, l2, some (aR o), l4, l5, l6, l7] L2 (aR o :: St) S := ev_go i314_2280 rfl
theorem i314_2281 : insAt 314 2281 = some (.invokestatic 277, 3, (159, 4, 0, 0), 0) := rfl
theorem s314_2281 {c : Nat → List AV → SS → Option Out} {l0 l1 l2 l3 l4 l5 l6 l7 : Option AV} {a0 : OId} {a1 : Int32} {a2 : Int32} {a3 : OId} {L2 : List (Nat × AV)} {S : SS} : ev c 314 2281 [l0, l1, l2, l3, l4, l5, l6, l7] L2 [aR a3, aI a2, aI a1, aR a0] S = ck (c 159 [aR a0, aI a1, aI a2, aR a3] S) (fun v S' => ev c 314 2284 [l0, l1, l2, l3, l4, l5, l6, l7] L2 (v.toList ++ []) S') := ev_call i314_2281 rfl
theorem i314_2284 : insAt 314 2284 = some (.istore 6, 2, (0, 0, 0, 0), 0) := rfl
theorem s314_2284 {c : Nat → List AV → SS → Option Out} {l0 l1 l2 l3 l4 l5 l6 l7 : Option AV} {x : Int32} {L2 : List (Nat × AV)} {St : List AV} {S : SS} : ev c 314 2284 [l0, l1, l2, l3, l4, l5, l6, l7] L2 (aI x :: St) S = ev c 314 2286 [l0, l1, l2, l3, l4, l5, some (aI x), l7] (kil L2 6) St S := ev_go i314_2284 rfl
theorem i314_2286 : insAt 314 2286 = some (.aload_n 2, 1, (0, 0, 0, 0), 0) := rfl
theorem s314_2286 {c : Nat → List AV → SS → Option Out} {l0 l1 l3 l4 l5 l6 l7 : Option AV} {o : OId} {L2 : List (Nat × AV)} {St : List AV} {S : SS} : ev c 314 2286 [l0, l1, some (aR o), l3, l4, l5, l6, l7] L2 St S = ev c 314 2287 [l0, l1, some (aR o), l3, l4, l5, l6, l7] L2 (aR o :: St) S := ev_go i314_2286 rfl
theorem i314_2287 : insAt 314 2287 = some (.aload_n 0, 1, (0, 0, 0, 0), 0) := rfl
theorem s314_2287 {c : Nat → List AV → SS → Option Out} {l1 l2 l3 l4 l5 l6 l7 : Option AV} {o : OId} {L2 : List (Nat × AV)} {St : List AV} {S : SS} : ev c 314 2287 [some (aR o), l1, l2, l3, l4, l5, l6, l7] L2 St S = ev c 314 2288 [some (aR o), l1, l2, l3, l4, l5, l6, l7] L2 (aR o :: St) S := ev_go i314_2287 rfl
theorem i314_2288 : insAt 314 2288 = some (.iload 5, 2, (0, 0, 0, 0), 0) := rfl
theorem s314_2288 {c : Nat → List AV → SS → Option Out} {l0 l1 l2 l3 l4 l6 l7 : Option AV} {x : Int32} {L2 : List (Nat × AV)} {St : List AV} {S : SS} : ev c 314 2288 [l0, l1, l2, l3, l4, some (aI x), l6, l7] L2 St S = ev c 314 2290 [l0, l1, l2, l3, l4, some (aI x), l6, l7] L2 (aI x :: St) S := ev_go i314_2288 rfl
theorem i314_2290 : insAt 314 2290 = some (.iconst 1, 1, (0, 0, 0, 0), 0) := rfl
theorem s314_2290 {c : Nat → List AV → SS → Option Out} {l0 l1 l2 l3 l4 l5 l6 l7 : Option AV} {L2 : List (Nat × AV)} {St : List AV} {S : SS} : ev c 314 2290 [l0, l1, l2, l3, l4, l5, l6, l7] L2 St S = ev c 314 2291 [l0, l1, l2, l3, l4, l5, l6, l7] L2 (aI 1 :: St) S := ev_go i314_2290 rfl
theorem i314_2291 : insAt 314 2291 = some (.iadd, 1, (0, 0, 0, 0), 0) := rfl
theorem s314_2291 {c : Nat → List AV → SS → Option Out} {l0 l1 l2 l3 l4 l5 l6 l7 : Option AV} {x y : Int32} {L2 : List (Nat × AV)} {St : List AV} {S : SS} : ev c 314 2291 [l0, l1, l2, l3, l4, l5, l6, l7] L2 (aI y :: aI x :: St) S = ev c 314 2292 [l0, l1, l2, l3, l4, l5, l6, l7] L2 (aI (x + y) :: St) S := ev_go i314_2291 rfl
theorem i314_2292 : insAt 314 2292 = some (.iaload, 1, (0, 0, 0, 0), 0) := rfl
theorem s314_2292 {c : Nat → List AV → SS → Option Out} {l0 l1 l2 l3 l4 l5 l6 l7 : Option AV} {i : Int32} {o : OId} {L2 : List (Nat × AV)} {St : List AV} {S : SS} : ev c 314 2292 [l0, l1, l2, l3, l4, l5, l6, l7] L2 (aI i :: aR o :: St) S = kI o i (ev c 314 2293 [l0, l1, l2, l3, l4, l5, l6, l7] L2 (aI (agI S o i.toNatClampNeg) :: St) S) := ev_iaload i314_2292
theorem i314_2293 : insAt 314 2293 = some (.aload_n 0, 1, (0, 0, 0, 0), 0) := rfl
theorem s314_2293 {c : Nat → List AV → SS → Option Out} {l1 l2 l3 l4 l5 l6 l7 : Option AV} {o : OId} {L2 : List (Nat × AV)} {St : List AV} {S : SS} : ev c 314 2293 [some (aR o), l1, l2, l3, l4, l5, l6, l7] L2 St S = ev c 314 2294 [some (aR o), l1, l2, l3, l4, l5, l6, l7] L2 (aR o :: St) S := ev_go i314_2293 rfl
theorem i314_2294 : insAt 314 2294 = some (.iload 5, 2, (0, 0, 0, 0), 0) := rfl
theorem s314_2294 {c : Nat → List AV → SS → Option Out} {l0 l1 l2 l3 l4 l6 l7 : Option AV} {x : Int32} {L2 : List (Nat × AV)} {St : List AV} {S : SS} : ev c 314 2294 [l0, l1, l2, l3, l4, some (aI x), l6, l7] L2 St S = ev c 314 2296 [l0, l1, l2, l3, l4, some (aI x), l6, l7] L2 (aI x :: St) S := ev_go i314_2294 rfl
theorem i314_2296 : insAt 314 2296 = some (.iconst 2, 1, (0, 0, 0, 0), 0) := rfl
theorem s314_2296 {c : Nat → List AV → SS → Option Out} {l0 l1 l2 l3 l4 l5 l6 l7 : Option AV} {L2 : List (Nat × AV)} {St : List AV} {S : SS} : ev c 314 2296 [l0, l1, l2, l3, l4, l5, l6, l7] L2 St S = ev c 314 2297 [l0, l1, l2, l3, l4, l5, l6, l7] L2 (aI 2 :: St) S := ev_go i314_2296 rfl
theorem i314_2297 : insAt 314 2297 = some (.iadd, 1, (0, 0, 0, 0), 0) := rfl
theorem s314_2297 {c : Nat → List AV → SS → Option Out} {l0 l1 l2 l3 l4 l5 l6 l7 : Option AV} {x y : Int32} {L2 : List (Nat × AV)} {St : List AV} {S : SS} : ev c 314 2297 [l0, l1, l2, l3, l4, l5, l6, l7] L2 (aI y :: aI x :: St) S = ev c 314 2298 [l0, l1, l2, l3, l4, l5, l6, l7] L2 (aI (x + y) :: St) S := ev_go i314_2297 rfl
theorem i314_2298 : insAt 314 2298 = some (.iaload, 1, (0, 0, 0, 0), 0) := rfl
theorem s314_2298 {c : Nat → List AV → SS → Option Out} {l0 l1 l2 l3 l4 l5 l6 l7 : Option AV} {i : Int32} {o : OId} {L2 : List (Nat × AV)} {St : List AV} {S : SS} : ev c 314 2298 [l0, l1, l2, l3, l4, l5, l6, l7] L2 (aI i :: aR o :: St) S = kI o i (ev c 314 2299 [l0, l1, l2, l3, l4, l5, l6, l7] L2 (aI (agI S o i.toNatClampNeg) :: St) S) := ev_iaload i314_2298
theorem i314_2299 : insAt 314 2299 = some (.invokevirtual 279, 3, (296, 2, 2, 12), 0) := rfl
theorem s314_2299 {c : Nat → List AV → SS → Option Out} {l0 l1 l2 l3 l4 l5 l6 l7 : Option AV} {a0 : Int32} {a1 : Int32} {j t : Nat} {L2 : List (Nat × AV)} {S : SS} : ev c 314 2299 [l0, l1, l2, l3, l4, l5, l6, l7] L2 [aI a1, aI a0, aR (12, j, t)] S = ck (c 296 [aR (12, j, t), aI a0, aI a1] S) (fun v S' => ev c 314 2302 [l0, l1, l2, l3, l4, l5, l6, l7] L2 (v.toList ++ []) S') := ev_call i314_2299 rfl
theorem i314_2302 : insAt 314 2302 = some (.istore 7, 2, (0, 0, 0, 0), 0) := rfl
theorem s314_2302 {c : Nat → List AV → SS → Option Out} {l0 l1 l2 l3 l4 l5 l6 l7 : Option AV} {x : Int32} {L2 : List (Nat × AV)} {St : List AV} {S : SS} : ev c 314 2302 [l0, l1, l2, l3, l4, l5, l6, l7] L2 (aI x :: St) S = ev c 314 2304 [l0, l1, l2, l3, l4, l5, l6, some (aI x)] (kil L2 7) St S := ev_go i314_2302 rfl
theorem i314_2304 : insAt 314 2304 = some (.aload_n 2, 1, (0, 0, 0, 0), 0) := rfl
theorem s314_2304 {c : Nat → List AV → SS → Option Out} {l0 l1 l3 l4 l5 l6 l7 : Option AV} {o : OId} {L2 : List (Nat × AV)} {St : List AV} {S : SS} : ev c 314 2304 [l0, l1, some (aR o), l3, l4, l5, l6, l7] L2 St S = ev c 314 2305 [l0, l1, some (aR o), l3, l4, l5, l6, l7] L2 (aR o :: St) S := ev_go i314_2304 rfl
theorem i314_2305 : insAt 314 2305 = some (.invokevirtual 149, 3, (218, 0, 2, 12), 0) := rfl
theorem s314_2305 {c : Nat → List AV → SS → Option Out} {l0 l1 l2 l3 l4 l5 l6 l7 : Option AV} {j t : Nat} {L2 : List (Nat × AV)} {S : SS} : ev c 314 2305 [l0, l1, l2, l3, l4, l5, l6, l7] L2 [aR (12, j, t)] S = ck (c 218 [aR (12, j, t)] S) (fun v S' => ev c 314 2308 [l0, l1, l2, l3, l4, l5, l6, l7] L2 (v.toList ++ []) S') := ev_call i314_2305 rfl
theorem i314_2308 : insAt 314 2308 = some (.iload 6, 2, (0, 0, 0, 0), 0) := rfl
theorem s314_2308 {c : Nat → List AV → SS → Option Out} {l0 l1 l2 l3 l4 l5 l7 : Option AV} {x : Int32} {L2 : List (Nat × AV)} {St : List AV} {S : SS} : ev c 314 2308 [l0, l1, l2, l3, l4, l5, some (aI x), l7] L2 St S = ev c 314 2310 [l0, l1, l2, l3, l4, l5, some (aI x), l7] L2 (aI x :: St) S := ev_go i314_2308 rfl
theorem i314_2310 : insAt 314 2310 = some (.if_icmp .eq 5, 3, (0, 0, 0, 0), 0) := rfl
theorem s314_2310 {c : Nat → List AV → SS → Option Out} {l0 l1 l2 l3 l4 l5 l6 l7 : Option AV} {x y : Int32} {L2 : List (Nat × AV)} {St : List AV} {S : SS} : ev c 314 2310 [l0, l1, l2, l3, l4, l5, l6, l7] L2 (aI y :: aI x :: St) S = if x = y then ev c 314 2315 [l0, l1, l2, l3, l4, l5, l6, l7] L2 St S else ev c 314 2313 [l0, l1, l2, l3, l4, l5, l6, l7] L2 St S := ev_br i314_2310 rfl
theorem i314_2313 : insAt 314 2313 = some (.iconst 0, 1, (0, 0, 0, 0), 0) := rfl
theorem s314_2313 {c : Nat → List AV → SS → Option Out} {l0 l1 l2 l3 l4 l5 l6 l7 : Option AV} {L2 : List (Nat × AV)} {St : List AV} {S : SS} : ev c 314 2313 [l0, l1, l2, l3, l4, l5, l6, l7] L2 St S = ev c 314 2314 [l0, l1, l2, l3, l4, l5, l6, l7] L2 (aI 0 :: St) S := ev_go i314_2313 rfl
theorem i314_2314 : insAt 314 2314 = some (.ireturn, 1, (0, 0, 0, 0), 0) := rfl
theorem s314_2314 {c : Nat → List AV → SS → Option Out} {l0 l1 l2 l3 l4 l5 l6 l7 : Option AV} {x : Int32} {L2 : List (Nat × AV)} {St : List AV} {S : SS} : ev c 314 2314 [l0, l1, l2, l3, l4, l5, l6, l7] L2 [aI x] S = if x = 0 ∨ x = 1 then some (.inl (some (aI x)), S) else none := ev_rt i314_2314 rfl
theorem i314_2315 : insAt 314 2315 = some (.iload 6, 2, (0, 0, 0, 0), 0) := rfl
theorem s314_2315 {c : Nat → List AV → SS → Option Out} {l0 l1 l2 l3 l4 l5 l7 : Option AV} {x : Int32} {L2 : List (Nat × AV)} {St : List AV} {S : SS} : ev c 314 2315 [l0, l1, l2, l3, l4, l5, some (aI x), l7] L2 St S = ev c 314 2317 [l0, l1, l2, l3, l4, l5, some (aI x), l7] L2 (aI x :: St) S := ev_go i314_2315 rfl
theorem i314_2317 : insAt 314 2317 = some (.ifCond .ne 15, 3, (0, 0, 0, 0), 0) := rfl
theorem s314_2317 {c : Nat → List AV → SS → Option Out} {l0 l1 l2 l3 l4 l5 l6 l7 : Option AV} {x : Int32} {L2 : List (Nat × AV)} {St : List AV} {S : SS} : ev c 314 2317 [l0, l1, l2, l3, l4, l5, l6, l7] L2 (aI x :: St) S = if x = 0 then ev c 314 2320 [l0, l1, l2, l3, l4, l5, l6, l7] L2 St S else ev c 314 2332 [l0, l1, l2, l3, l4, l5, l6, l7] L2 St S := (ev_br i314_2317 rfl).trans (ite_not _ _ _)
theorem i314_2320 : insAt 314 2320 = some (.aload_n 3, 1, (0, 0, 0, 0), 0) := rfl
theorem s314_2320 {c : Nat → List AV → SS → Option Out} {l0 l1 l2 l4 l5 l6 l7 : Option AV} {o : OId} {L2 : List (Nat × AV)} {St : List AV} {S : SS} : ev c 314 2320 [l0, l1, l2, some (aR o), l4, l5, l6, l7] L2 St S = ev c 314 2321 [l0, l1, l2, some (aR o), l4, l5, l6, l7] L2 (aR o :: St) S := ev_go i314_2320 rfl
theorem i314_2321 : insAt 314 2321 = some (.iconst 0, 1, (0, 0, 0, 0), 0) := rfl
theorem s314_2321 {c : Nat → List AV → SS → Option Out} {l0 l1 l2 l3 l4 l5 l6 l7 : Option AV} {L2 : List (Nat × AV)} {St : List AV} {S : SS} : ev c 314 2321 [l0, l1, l2, l3, l4, l5, l6, l7] L2 St S = ev c 314 2322 [l0, l1, l2, l3, l4, l5, l6, l7] L2 (aI 0 :: St) S := ev_go i314_2321 rfl
theorem i314_2322 : insAt 314 2322 = some (.laload, 1, (0, 0, 0, 0), 0) := rfl
theorem s314_2322 {c : Nat → List AV → SS → Option Out} {l0 l1 l2 l3 l4 l5 l6 l7 : Option AV} {i : Int32} {o : OId} {L2 : List (Nat × AV)} {St : List AV} {S : SS} : ev c 314 2322 [l0, l1, l2, l3, l4, l5, l6, l7] L2 (aI i :: aR o :: St) S = kJ o i (ev c 314 2323 [l0, l1, l2, l3, l4, l5, l6, l7] L2 (aL (toL (S.2.1 o i.toNatClampNeg)) :: St) S) := ev_laload i314_2322
theorem i314_2323 : insAt 314 2323 = some (.iload 7, 2, (0, 0, 0, 0), 0) := rfl
theorem s314_2323 {c : Nat → List AV → SS → Option Out} {l0 l1 l2 l3 l4 l5 l6 : Option AV} {x : Int32} {L2 : List (Nat × AV)} {St : List AV} {S : SS} : ev c 314 2323 [l0, l1, l2, l3, l4, l5, l6, some (aI x)] L2 St S = ev c 314 2325 [l0, l1, l2, l3, l4, l5, l6, some (aI x)] L2 (aI x :: St) S := ev_go i314_2323 rfl
theorem i314_2325 : insAt 314 2325 = some (.i2l, 1, (0, 0, 0, 0), 0) := rfl
theorem s314_2325 {c : Nat → List AV → SS → Option Out} {l0 l1 l2 l3 l4 l5 l6 l7 : Option AV} {x : Int32} {L2 : List (Nat × AV)} {St : List AV} {S : SS} : ev c 314 2325 [l0, l1, l2, l3, l4, l5, l6, l7] L2 (aI x :: St) S = ev c 314 2326 [l0, l1, l2, l3, l4, l5, l6, l7] L2 (aL x.toInt64 :: St) S := ev_go i314_2325 rfl
theorem i314_2326 : insAt 314 2326 = some (.lcmp, 1, (0, 0, 0, 0), 0) := rfl
theorem s314_2326 {c : Nat → List AV → SS → Option Out} {l0 l1 l2 l3 l4 l5 l6 l7 : Option AV} {x y : Int64} {L2 : List (Nat × AV)} {St : List AV} {S : SS} : ev c 314 2326 [l0, l1, l2, l3, l4, l5, l6, l7] L2 (aL y :: aL x :: St) S = ev c 314 2327 [l0, l1, l2, l3, l4, l5, l6, l7] L2 (aI (if x < y then -1 else if x = y then 0 else 1) :: St) S := ev_go i314_2326 rfl
theorem i314_2327 : insAt 314 2327 = some (.ifCond .eq 5, 3, (0, 0, 0, 0), 0) := rfl
theorem s314_2327 {c : Nat → List AV → SS → Option Out} {l0 l1 l2 l3 l4 l5 l6 l7 : Option AV} {x : Int32} {L2 : List (Nat × AV)} {St : List AV} {S : SS} : ev c 314 2327 [l0, l1, l2, l3, l4, l5, l6, l7] L2 (aI x :: St) S = if x = 0 then ev c 314 2332 [l0, l1, l2, l3, l4, l5, l6, l7] L2 St S else ev c 314 2330 [l0, l1, l2, l3, l4, l5, l6, l7] L2 St S := ev_br i314_2327 rfl
theorem i314_2330 : insAt 314 2330 = some (.iconst 0, 1, (0, 0, 0, 0), 0) := rfl
theorem s314_2330 {c : Nat → List AV → SS → Option Out} {l0 l1 l2 l3 l4 l5 l6 l7 : Option AV} {L2 : List (Nat × AV)} {St : List AV} {S : SS} : ev c 314 2330 [l0, l1, l2, l3, l4, l5, l6, l7] L2 St S = ev c 314 2331 [l0, l1, l2, l3, l4, l5, l6, l7] L2 (aI 0 :: St) S := ev_go i314_2330 rfl
theorem i314_2331 : insAt 314 2331 = some (.ireturn, 1, (0, 0, 0, 0), 0) := rfl
theorem s314_2331 {c : Nat → List AV → SS → Option Out} {l0 l1 l2 l3 l4 l5 l6 l7 : Option AV} {x : Int32} {L2 : List (Nat × AV)} {St : List AV} {S : SS} : ev c 314 2331 [l0, l1, l2, l3, l4, l5, l6, l7] L2 [aI x] S = if x = 0 ∨ x = 1 then some (.inl (some (aI x)), S) else none := ev_rt i314_2331 rfl
theorem i314_2332 : insAt 314 2332 = some (.goto 467, 3, (0, 0, 0, 0), 0) := rfl
theorem s314_2332 {c : Nat → List AV → SS → Option Out} {l0 l1 l2 l3 l4 l5 l6 l7 : Option AV} {L2 : List (Nat × AV)} {St : List AV} {S : SS} : ev c 314 2332 [l0, l1, l2, l3, l4, l5, l6, l7] L2 St S = ev c 314 2799 [l0, l1, l2, l3, l4, l5, l6, l7] L2 St S := ev_go i314_2332 rfl
theorem i314_2335 : insAt 314 2335 = some (.aload_n 1, 1, (0, 0, 0, 0), 0) := rfl
theorem s314_2335 {c : Nat → List AV → SS → Option Out} {l0 l2 l3 l4 l5 l6 l7 : Option AV} {o : OId} {L2 : List (Nat × AV)} {St : List AV} {S : SS} : ev c 314 2335 [l0, some (aR o), l2, l3, l4, l5, l6, l7] L2 St S = ev c 314 2336 [l0, some (aR o), l2, l3, l4, l5, l6, l7] L2 (aR o :: St) S := ev_go i314_2335 rfl
theorem i314_2336 : insAt 314 2336 = some (.aload_n 3, 1, (0, 0, 0, 0), 0) := rfl
theorem s314_2336 {c : Nat → List AV → SS → Option Out} {l0 l1 l2 l4 l5 l6 l7 : Option AV} {o : OId} {L2 : List (Nat × AV)} {St : List AV} {S : SS} : ev c 314 2336 [l0, l1, l2, some (aR o), l4, l5, l6, l7] L2 St S = ev c 314 2337 [l0, l1, l2, some (aR o), l4, l5, l6, l7] L2 (aR o :: St) S := ev_go i314_2336 rfl
theorem i314_2337 : insAt 314 2337 = some (.invokestatic 280, 3, (164, 2, 0, 0), 0) := rfl
theorem s314_2337 {c : Nat → List AV → SS → Option Out} {l0 l1 l2 l3 l4 l5 l6 l7 : Option AV} {a0 : OId} {a1 : OId} {L2 : List (Nat × AV)} {S : SS} : ev c 314 2337 [l0, l1, l2, l3, l4, l5, l6, l7] L2 [aR a1, aR a0] S = ck (c 164 [aR a0, aR a1] S) (fun v S' => ev c 314 2340 [l0, l1, l2, l3, l4, l5, l6, l7] L2 (v.toList ++ []) S') := ev_call i314_2337 rfl
theorem i314_2340 : insAt 314 2340 = some (.istore 6, 2, (0, 0, 0, 0), 0) := rfl
theorem s314_2340 {c : Nat → List AV → SS → Option Out} {l0 l1 l2 l3 l4 l5 l6 l7 : Option AV} {x : Int32} {L2 : List (Nat × AV)} {St : List AV} {S : SS} : ev c 314 2340 [l0, l1, l2, l3, l4, l5, l6, l7] L2 (aI x :: St) S = ev c 314 2342 [l0, l1, l2, l3, l4, l5, some (aI x), l7] (kil L2 6) St S := ev_go i314_2340 rfl
theorem i314_2342 : insAt 314 2342 = some (.aload_n 2, 1, (0, 0, 0, 0), 0) := rfl
theorem s314_2342 {c : Nat → List AV → SS → Option Out} {l0 l1 l3 l4 l5 l6 l7 : Option AV} {o : OId} {L2 : List (Nat × AV)} {St : List AV} {S : SS} : ev c 314 2342 [l0, l1, some (aR o), l3, l4, l5, l6, l7] L2 St S = ev c 314 2343 [l0, l1, some (aR o), l3, l4, l5, l6, l7] L2 (aR o :: St) S := ev_go i314_2342 rfl
theorem i314_2343 : insAt 314 2343 = some (.invokevirtual 283, 3, (297, 0, 2, 12), 0) := rfl
theorem s314_2343 {c : Nat → List AV → SS → Option Out} {l0 l1 l2 l3 l4 l5 l6 l7 : Option AV} {j t : Nat} {L2 : List (Nat × AV)} {S : SS} : ev c 314 2343 [l0, l1, l2, l3, l4, l5, l6, l7] L2 [aR (12, j, t)] S = ck (c 297 [aR (12, j, t)] S) (fun v S' => ev c 314 2346 [l0, l1, l2, l3, l4, l5, l6, l7] L2 (v.toList ++ []) S') := ev_call i314_2343 rfl
theorem i314_2346 : insAt 314 2346 = some (.istore 7, 2, (0, 0, 0, 0), 0) := rfl
theorem s314_2346 {c : Nat → List AV → SS → Option Out} {l0 l1 l2 l3 l4 l5 l6 l7 : Option AV} {x : Int32} {L2 : List (Nat × AV)} {St : List AV} {S : SS} : ev c 314 2346 [l0, l1, l2, l3, l4, l5, l6, l7] L2 (aI x :: St) S = ev c 314 2348 [l0, l1, l2, l3, l4, l5, l6, some (aI x)] (kil L2 7) St S := ev_go i314_2346 rfl
theorem i314_2348 : insAt 314 2348 = some (.aload_n 2, 1, (0, 0, 0, 0), 0) := rfl
theorem s314_2348 {c : Nat → List AV → SS → Option Out} {l0 l1 l3 l4 l5 l6 l7 : Option AV} {o : OId} {L2 : List (Nat × AV)} {St : List AV} {S : SS} : ev c 314 2348 [l0, l1, some (aR o), l3, l4, l5, l6, l7] L2 St S = ev c 314 2349 [l0, l1, some (aR o), l3, l4, l5, l6, l7] L2 (aR o :: St) S := ev_go i314_2348 rfl
theorem i314_2349 : insAt 314 2349 = some (.invokevirtual 149, 3, (218, 0, 2, 12), 0) := rfl
theorem s314_2349 {c : Nat → List AV → SS → Option Out} {l0 l1 l2 l3 l4 l5 l6 l7 : Option AV} {j t : Nat} {L2 : List (Nat × AV)} {S : SS} : ev c 314 2349 [l0, l1, l2, l3, l4, l5, l6, l7] L2 [aR (12, j, t)] S = ck (c 218 [aR (12, j, t)] S) (fun v S' => ev c 314 2352 [l0, l1, l2, l3, l4, l5, l6, l7] L2 (v.toList ++ []) S') := ev_call i314_2349 rfl
theorem i314_2352 : insAt 314 2352 = some (.iload 6, 2, (0, 0, 0, 0), 0) := rfl
theorem s314_2352 {c : Nat → List AV → SS → Option Out} {l0 l1 l2 l3 l4 l5 l7 : Option AV} {x : Int32} {L2 : List (Nat × AV)} {St : List AV} {S : SS} : ev c 314 2352 [l0, l1, l2, l3, l4, l5, some (aI x), l7] L2 St S = ev c 314 2354 [l0, l1, l2, l3, l4, l5, some (aI x), l7] L2 (aI x :: St) S := ev_go i314_2352 rfl
theorem i314_2354 : insAt 314 2354 = some (.if_icmp .eq 5, 3, (0, 0, 0, 0), 0) := rfl
theorem s314_2354 {c : Nat → List AV → SS → Option Out} {l0 l1 l2 l3 l4 l5 l6 l7 : Option AV} {x y : Int32} {L2 : List (Nat × AV)} {St : List AV} {S : SS} : ev c 314 2354 [l0, l1, l2, l3, l4, l5, l6, l7] L2 (aI y :: aI x :: St) S = if x = y then ev c 314 2359 [l0, l1, l2, l3, l4, l5, l6, l7] L2 St S else ev c 314 2357 [l0, l1, l2, l3, l4, l5, l6, l7] L2 St S := ev_br i314_2354 rfl
theorem i314_2357 : insAt 314 2357 = some (.iconst 0, 1, (0, 0, 0, 0), 0) := rfl
theorem s314_2357 {c : Nat → List AV → SS → Option Out} {l0 l1 l2 l3 l4 l5 l6 l7 : Option AV} {L2 : List (Nat × AV)} {St : List AV} {S : SS} : ev c 314 2357 [l0, l1, l2, l3, l4, l5, l6, l7] L2 St S = ev c 314 2358 [l0, l1, l2, l3, l4, l5, l6, l7] L2 (aI 0 :: St) S := ev_go i314_2357 rfl
theorem i314_2358 : insAt 314 2358 = some (.ireturn, 1, (0, 0, 0, 0), 0) := rfl
theorem s314_2358 {c : Nat → List AV → SS → Option Out} {l0 l1 l2 l3 l4 l5 l6 l7 : Option AV} {x : Int32} {L2 : List (Nat × AV)} {St : List AV} {S : SS} : ev c 314 2358 [l0, l1, l2, l3, l4, l5, l6, l7] L2 [aI x] S = if x = 0 ∨ x = 1 then some (.inl (some (aI x)), S) else none := ev_rt i314_2358 rfl
theorem i314_2359 : insAt 314 2359 = some (.iload 6, 2, (0, 0, 0, 0), 0) := rfl
theorem s314_2359 {c : Nat → List AV → SS → Option Out} {l0 l1 l2 l3 l4 l5 l7 : Option AV} {x : Int32} {L2 : List (Nat × AV)} {St : List AV} {S : SS} : ev c 314 2359 [l0, l1, l2, l3, l4, l5, some (aI x), l7] L2 St S = ev c 314 2361 [l0, l1, l2, l3, l4, l5, some (aI x), l7] L2 (aI x :: St) S := ev_go i314_2359 rfl
theorem i314_2361 : insAt 314 2361 = some (.ifCond .ne 15, 3, (0, 0, 0, 0), 0) := rfl
theorem s314_2361 {c : Nat → List AV → SS → Option Out} {l0 l1 l2 l3 l4 l5 l6 l7 : Option AV} {x : Int32} {L2 : List (Nat × AV)} {St : List AV} {S : SS} : ev c 314 2361 [l0, l1, l2, l3, l4, l5, l6, l7] L2 (aI x :: St) S = if x = 0 then ev c 314 2364 [l0, l1, l2, l3, l4, l5, l6, l7] L2 St S else ev c 314 2376 [l0, l1, l2, l3, l4, l5, l6, l7] L2 St S := (ev_br i314_2361 rfl).trans (ite_not _ _ _)
theorem i314_2364 : insAt 314 2364 = some (.aload_n 3, 1, (0, 0, 0, 0), 0) := rfl
theorem s314_2364 {c : Nat → List AV → SS → Option Out} {l0 l1 l2 l4 l5 l6 l7 : Option AV} {o : OId} {L2 : List (Nat × AV)} {St : List AV} {S : SS} : ev c 314 2364 [l0, l1, l2, some (aR o), l4, l5, l6, l7] L2 St S = ev c 314 2365 [l0, l1, l2, some (aR o), l4, l5, l6, l7] L2 (aR o :: St) S := ev_go i314_2364 rfl
theorem i314_2365 : insAt 314 2365 = some (.iconst 0, 1, (0, 0, 0, 0), 0) := rfl
theorem s314_2365 {c : Nat → List AV → SS → Option Out} {l0 l1 l2 l3 l4 l5 l6 l7 : Option AV} {L2 : List (Nat × AV)} {St : List AV} {S : SS} : ev c 314 2365 [l0, l1, l2, l3, l4, l5, l6, l7] L2 St S = ev c 314 2366 [l0, l1, l2, l3, l4, l5, l6, l7] L2 (aI 0 :: St) S := ev_go i314_2365 rfl
theorem i314_2366 : insAt 314 2366 = some (.laload, 1, (0, 0, 0, 0), 0) := rfl
theorem s314_2366 {c : Nat → List AV → SS → Option Out} {l0 l1 l2 l3 l4 l5 l6 l7 : Option AV} {i : Int32} {o : OId} {L2 : List (Nat × AV)} {St : List AV} {S : SS} : ev c 314 2366 [l0, l1, l2, l3, l4, l5, l6, l7] L2 (aI i :: aR o :: St) S = kJ o i (ev c 314 2367 [l0, l1, l2, l3, l4, l5, l6, l7] L2 (aL (toL (S.2.1 o i.toNatClampNeg)) :: St) S) := ev_laload i314_2366
theorem i314_2367 : insAt 314 2367 = some (.iload 7, 2, (0, 0, 0, 0), 0) := rfl
theorem s314_2367 {c : Nat → List AV → SS → Option Out} {l0 l1 l2 l3 l4 l5 l6 : Option AV} {x : Int32} {L2 : List (Nat × AV)} {St : List AV} {S : SS} : ev c 314 2367 [l0, l1, l2, l3, l4, l5, l6, some (aI x)] L2 St S = ev c 314 2369 [l0, l1, l2, l3, l4, l5, l6, some (aI x)] L2 (aI x :: St) S := ev_go i314_2367 rfl
theorem i314_2369 : insAt 314 2369 = some (.i2l, 1, (0, 0, 0, 0), 0) := rfl
theorem s314_2369 {c : Nat → List AV → SS → Option Out} {l0 l1 l2 l3 l4 l5 l6 l7 : Option AV} {x : Int32} {L2 : List (Nat × AV)} {St : List AV} {S : SS} : ev c 314 2369 [l0, l1, l2, l3, l4, l5, l6, l7] L2 (aI x :: St) S = ev c 314 2370 [l0, l1, l2, l3, l4, l5, l6, l7] L2 (aL x.toInt64 :: St) S := ev_go i314_2369 rfl
theorem i314_2370 : insAt 314 2370 = some (.lcmp, 1, (0, 0, 0, 0), 0) := rfl
theorem s314_2370 {c : Nat → List AV → SS → Option Out} {l0 l1 l2 l3 l4 l5 l6 l7 : Option AV} {x y : Int64} {L2 : List (Nat × AV)} {St : List AV} {S : SS} : ev c 314 2370 [l0, l1, l2, l3, l4, l5, l6, l7] L2 (aL y :: aL x :: St) S = ev c 314 2371 [l0, l1, l2, l3, l4, l5, l6, l7] L2 (aI (if x < y then -1 else if x = y then 0 else 1) :: St) S := ev_go i314_2370 rfl
theorem i314_2371 : insAt 314 2371 = some (.ifCond .eq 5, 3, (0, 0, 0, 0), 0) := rfl
theorem s314_2371 {c : Nat → List AV → SS → Option Out} {l0 l1 l2 l3 l4 l5 l6 l7 : Option AV} {x : Int32} {L2 : List (Nat × AV)} {St : List AV} {S : SS} : ev c 314 2371 [l0, l1, l2, l3, l4, l5, l6, l7] L2 (aI x :: St) S = if x = 0 then ev c 314 2376 [l0, l1, l2, l3, l4, l5, l6, l7] L2 St S else ev c 314 2374 [l0, l1, l2, l3, l4, l5, l6, l7] L2 St S := ev_br i314_2371 rfl
theorem i314_2374 : insAt 314 2374 = some (.iconst 0, 1, (0, 0, 0, 0), 0) := rfl
theorem s314_2374 {c : Nat → List AV → SS → Option Out} {l0 l1 l2 l3 l4 l5 l6 l7 : Option AV} {L2 : List (Nat × AV)} {St : List AV} {S : SS} : ev c 314 2374 [l0, l1, l2, l3, l4, l5, l6, l7] L2 St S = ev c 314 2375 [l0, l1, l2, l3, l4, l5, l6, l7] L2 (aI 0 :: St) S := ev_go i314_2374 rfl
theorem i314_2375 : insAt 314 2375 = some (.ireturn, 1, (0, 0, 0, 0), 0) := rfl
theorem s314_2375 {c : Nat → List AV → SS → Option Out} {l0 l1 l2 l3 l4 l5 l6 l7 : Option AV} {x : Int32} {L2 : List (Nat × AV)} {St : List AV} {S : SS} : ev c 314 2375 [l0, l1, l2, l3, l4, l5, l6, l7] L2 [aI x] S = if x = 0 ∨ x = 1 then some (.inl (some (aI x)), S) else none := ev_rt i314_2375 rfl
theorem i314_2376 : insAt 314 2376 = some (.goto 423, 3, (0, 0, 0, 0), 0) := rfl
theorem s314_2376 {c : Nat → List AV → SS → Option Out} {l0 l1 l2 l3 l4 l5 l6 l7 : Option AV} {L2 : List (Nat × AV)} {St : List AV} {S : SS} : ev c 314 2376 [l0, l1, l2, l3, l4, l5, l6, l7] L2 St S = ev c 314 2799 [l0, l1, l2, l3, l4, l5, l6, l7] L2 St S := ev_go i314_2376 rfl
theorem i314_2379 : insAt 314 2379 = some (.aload_n 1, 1, (0, 0, 0, 0), 0) := rfl
theorem s314_2379 {c : Nat → List AV → SS → Option Out} {l0 l2 l3 l4 l5 l6 l7 : Option AV} {o : OId} {L2 : List (Nat × AV)} {St : List AV} {S : SS} : ev c 314 2379 [l0, some (aR o), l2, l3, l4, l5, l6, l7] L2 St S = ev c 314 2380 [l0, some (aR o), l2, l3, l4, l5, l6, l7] L2 (aR o :: St) S := ev_go i314_2379 rfl
theorem i314_2380 : insAt 314 2380 = some (.aload_n 0, 1, (0, 0, 0, 0), 0) := rfl
theorem s314_2380 {c : Nat → List AV → SS → Option Out} {l1 l2 l3 l4 l5 l6 l7 : Option AV} {o : OId} {L2 : List (Nat × AV)} {St : List AV} {S : SS} : ev c 314 2380 [some (aR o), l1, l2, l3, l4, l5, l6, l7] L2 St S = ev c 314 2381 [some (aR o), l1, l2, l3, l4, l5, l6, l7] L2 (aR o :: St) S := ev_go i314_2380 rfl
theorem i314_2381 : insAt 314 2381 = some (.iload 5, 2, (0, 0, 0, 0), 0) := rfl
theorem s314_2381 {c : Nat → List AV → SS → Option Out} {l0 l1 l2 l3 l4 l6 l7 : Option AV} {x : Int32} {L2 : List (Nat × AV)} {St : List AV} {S : SS} : ev c 314 2381 [l0, l1, l2, l3, l4, some (aI x), l6, l7] L2 St S = ev c 314 2383 [l0, l1, l2, l3, l4, some (aI x), l6, l7] L2 (aI x :: St) S := ev_go i314_2381 rfl
theorem i314_2383 : insAt 314 2383 = some (.iconst 1, 1, (0, 0, 0, 0), 0) := rfl
theorem s314_2383 {c : Nat → List AV → SS → Option Out} {l0 l1 l2 l3 l4 l5 l6 l7 : Option AV} {L2 : List (Nat × AV)} {St : List AV} {S : SS} : ev c 314 2383 [l0, l1, l2, l3, l4, l5, l6, l7] L2 St S = ev c 314 2384 [l0, l1, l2, l3, l4, l5, l6, l7] L2 (aI 1 :: St) S := ev_go i314_2383 rfl
theorem i314_2384 : insAt 314 2384 = some (.iadd, 1, (0, 0, 0, 0), 0) := rfl
theorem s314_2384 {c : Nat → List AV → SS → Option Out} {l0 l1 l2 l3 l4 l5 l6 l7 : Option AV} {x y : Int32} {L2 : List (Nat × AV)} {St : List AV} {S : SS} : ev c 314 2384 [l0, l1, l2, l3, l4, l5, l6, l7] L2 (aI y :: aI x :: St) S = ev c 314 2385 [l0, l1, l2, l3, l4, l5, l6, l7] L2 (aI (x + y) :: St) S := ev_go i314_2384 rfl
theorem i314_2385 : insAt 314 2385 = some (.iaload, 1, (0, 0, 0, 0), 0) := rfl
theorem s314_2385 {c : Nat → List AV → SS → Option Out} {l0 l1 l2 l3 l4 l5 l6 l7 : Option AV} {i : Int32} {o : OId} {L2 : List (Nat × AV)} {St : List AV} {S : SS} : ev c 314 2385 [l0, l1, l2, l3, l4, l5, l6, l7] L2 (aI i :: aR o :: St) S = kI o i (ev c 314 2386 [l0, l1, l2, l3, l4, l5, l6, l7] L2 (aI (agI S o i.toNatClampNeg) :: St) S) := ev_iaload i314_2385
theorem i314_2386 : insAt 314 2386 = some (.aload_n 3, 1, (0, 0, 0, 0), 0) := rfl
theorem s314_2386 {c : Nat → List AV → SS → Option Out} {l0 l1 l2 l4 l5 l6 l7 : Option AV} {o : OId} {L2 : List (Nat × AV)} {St : List AV} {S : SS} : ev c 314 2386 [l0, l1, l2, some (aR o), l4, l5, l6, l7] L2 St S = ev c 314 2387 [l0, l1, l2, some (aR o), l4, l5, l6, l7] L2 (aR o :: St) S := ev_go i314_2386 rfl
theorem i314_2387 : insAt 314 2387 = some (.invokestatic 284, 3, (166, 3, 0, 0), 0) := rfl
theorem s314_2387 {c : Nat → List AV → SS → Option Out} {l0 l1 l2 l3 l4 l5 l6 l7 : Option AV} {a0 : OId} {a1 : Int32} {a2 : OId} {L2 : List (Nat × AV)} {S : SS} : ev c 314 2387 [l0, l1, l2, l3, l4, l5, l6, l7] L2 [aR a2, aI a1, aR a0] S = ck (c 166 [aR a0, aI a1, aR a2] S) (fun v S' => ev c 314 2390 [l0, l1, l2, l3, l4, l5, l6, l7] L2 (v.toList ++ []) S') := ev_call i314_2387 rfl
theorem i314_2390 : insAt 314 2390 = some (.istore 6, 2, (0, 0, 0, 0), 0) := rfl
theorem s314_2390 {c : Nat → List AV → SS → Option Out} {l0 l1 l2 l3 l4 l5 l6 l7 : Option AV} {x : Int32} {L2 : List (Nat × AV)} {St : List AV} {S : SS} : ev c 314 2390 [l0, l1, l2, l3, l4, l5, l6, l7] L2 (aI x :: St) S = ev c 314 2392 [l0, l1, l2, l3, l4, l5, some (aI x), l7] (kil L2 6) St S := ev_go i314_2390 rfl
theorem i314_2392 : insAt 314 2392 = some (.aload_n 2, 1, (0, 0, 0, 0), 0) := rfl
theorem s314_2392 {c : Nat → List AV → SS → Option Out} {l0 l1 l3 l4 l5 l6 l7 : Option AV} {o : OId} {L2 : List (Nat × AV)} {St : List AV} {S : SS} : ev c 314 2392 [l0, l1, some (aR o), l3, l4, l5, l6, l7] L2 St S = ev c 314 2393 [l0, l1, some (aR o), l3, l4, l5, l6, l7] L2 (aR o :: St) S := ev_go i314_2392 rfl
theorem i314_2393 : insAt 314 2393 = some (.aload_n 0, 1, (0, 0, 0, 0), 0) := rfl
theorem s314_2393 {c : Nat → List AV → SS → Option Out} {l1 l2 l3 l4 l5 l6 l7 : Option AV} {o : OId} {L2 : List (Nat × AV)} {St : List AV} {S : SS} : ev c 314 2393 [some (aR o), l1, l2, l3, l4, l5, l6, l7] L2 St S = ev c 314 2394 [some (aR o), l1, l2, l3, l4, l5, l6, l7] L2 (aR o :: St) S := ev_go i314_2393 rfl
theorem i314_2394 : insAt 314 2394 = some (.iload 5, 2, (0, 0, 0, 0), 0) := rfl
theorem s314_2394 {c : Nat → List AV → SS → Option Out} {l0 l1 l2 l3 l4 l6 l7 : Option AV} {x : Int32} {L2 : List (Nat × AV)} {St : List AV} {S : SS} : ev c 314 2394 [l0, l1, l2, l3, l4, some (aI x), l6, l7] L2 St S = ev c 314 2396 [l0, l1, l2, l3, l4, some (aI x), l6, l7] L2 (aI x :: St) S := ev_go i314_2394 rfl
theorem i314_2396 : insAt 314 2396 = some (.iconst 1, 1, (0, 0, 0, 0), 0) := rfl
theorem s314_2396 {c : Nat → List AV → SS → Option Out} {l0 l1 l2 l3 l4 l5 l6 l7 : Option AV} {L2 : List (Nat × AV)} {St : List AV} {S : SS} : ev c 314 2396 [l0, l1, l2, l3, l4, l5, l6, l7] L2 St S = ev c 314 2397 [l0, l1, l2, l3, l4, l5, l6, l7] L2 (aI 1 :: St) S := ev_go i314_2396 rfl
theorem i314_2397 : insAt 314 2397 = some (.iadd, 1, (0, 0, 0, 0), 0) := rfl
theorem s314_2397 {c : Nat → List AV → SS → Option Out} {l0 l1 l2 l3 l4 l5 l6 l7 : Option AV} {x y : Int32} {L2 : List (Nat × AV)} {St : List AV} {S : SS} : ev c 314 2397 [l0, l1, l2, l3, l4, l5, l6, l7] L2 (aI y :: aI x :: St) S = ev c 314 2398 [l0, l1, l2, l3, l4, l5, l6, l7] L2 (aI (x + y) :: St) S := ev_go i314_2397 rfl
theorem i314_2398 : insAt 314 2398 = some (.iaload, 1, (0, 0, 0, 0), 0) := rfl
theorem s314_2398 {c : Nat → List AV → SS → Option Out} {l0 l1 l2 l3 l4 l5 l6 l7 : Option AV} {i : Int32} {o : OId} {L2 : List (Nat × AV)} {St : List AV} {S : SS} : ev c 314 2398 [l0, l1, l2, l3, l4, l5, l6, l7] L2 (aI i :: aR o :: St) S = kI o i (ev c 314 2399 [l0, l1, l2, l3, l4, l5, l6, l7] L2 (aI (agI S o i.toNatClampNeg) :: St) S) := ev_iaload i314_2398
theorem i314_2399 : insAt 314 2399 = some (.invokevirtual 286, 3, (298, 1, 2, 12), 0) := rfl
theorem s314_2399 {c : Nat → List AV → SS → Option Out} {l0 l1 l2 l3 l4 l5 l6 l7 : Option AV} {a0 : Int32} {j t : Nat} {L2 : List (Nat × AV)} {S : SS} : ev c 314 2399 [l0, l1, l2, l3, l4, l5, l6, l7] L2 [aI a0, aR (12, j, t)] S = ck (c 298 [aR (12, j, t), aI a0] S) (fun v S' => ev c 314 2402 [l0, l1, l2, l3, l4, l5, l6, l7] L2 (v.toList ++ []) S') := ev_call i314_2399 rfl
theorem i314_2402 : insAt 314 2402 = some (.istore 7, 2, (0, 0, 0, 0), 0) := rfl
theorem s314_2402 {c : Nat → List AV → SS → Option Out} {l0 l1 l2 l3 l4 l5 l6 l7 : Option AV} {x : Int32} {L2 : List (Nat × AV)} {St : List AV} {S : SS} : ev c 314 2402 [l0, l1, l2, l3, l4, l5, l6, l7] L2 (aI x :: St) S = ev c 314 2404 [l0, l1, l2, l3, l4, l5, l6, some (aI x)] (kil L2 7) St S := ev_go i314_2402 rfl
theorem i314_2404 : insAt 314 2404 = some (.aload_n 2, 1, (0, 0, 0, 0), 0) := rfl
theorem s314_2404 {c : Nat → List AV → SS → Option Out} {l0 l1 l3 l4 l5 l6 l7 : Option AV} {o : OId} {L2 : List (Nat × AV)} {St : List AV} {S : SS} : ev c 314 2404 [l0, l1, some (aR o), l3, l4, l5, l6, l7] L2 St S = ev c 314 2405 [l0, l1, some (aR o), l3, l4, l5, l6, l7] L2 (aR o :: St) S := ev_go i314_2404 rfl
theorem i314_2405 : insAt 314 2405 = some (.invokevirtual 149, 3, (218, 0, 2, 12), 0) := rfl
theorem s314_2405 {c : Nat → List AV → SS → Option Out} {l0 l1 l2 l3 l4 l5 l6 l7 : Option AV} {j t : Nat} {L2 : List (Nat × AV)} {S : SS} : ev c 314 2405 [l0, l1, l2, l3, l4, l5, l6, l7] L2 [aR (12, j, t)] S = ck (c 218 [aR (12, j, t)] S) (fun v S' => ev c 314 2408 [l0, l1, l2, l3, l4, l5, l6, l7] L2 (v.toList ++ []) S') := ev_call i314_2405 rfl
theorem i314_2408 : insAt 314 2408 = some (.iload 6, 2, (0, 0, 0, 0), 0) := rfl
theorem s314_2408 {c : Nat → List AV → SS → Option Out} {l0 l1 l2 l3 l4 l5 l7 : Option AV} {x : Int32} {L2 : List (Nat × AV)} {St : List AV} {S : SS} : ev c 314 2408 [l0, l1, l2, l3, l4, l5, some (aI x), l7] L2 St S = ev c 314 2410 [l0, l1, l2, l3, l4, l5, some (aI x), l7] L2 (aI x :: St) S := ev_go i314_2408 rfl
theorem i314_2410 : insAt 314 2410 = some (.if_icmp .eq 5, 3, (0, 0, 0, 0), 0) := rfl
theorem s314_2410 {c : Nat → List AV → SS → Option Out} {l0 l1 l2 l3 l4 l5 l6 l7 : Option AV} {x y : Int32} {L2 : List (Nat × AV)} {St : List AV} {S : SS} : ev c 314 2410 [l0, l1, l2, l3, l4, l5, l6, l7] L2 (aI y :: aI x :: St) S = if x = y then ev c 314 2415 [l0, l1, l2, l3, l4, l5, l6, l7] L2 St S else ev c 314 2413 [l0, l1, l2, l3, l4, l5, l6, l7] L2 St S := ev_br i314_2410 rfl
theorem i314_2413 : insAt 314 2413 = some (.iconst 0, 1, (0, 0, 0, 0), 0) := rfl
theorem s314_2413 {c : Nat → List AV → SS → Option Out} {l0 l1 l2 l3 l4 l5 l6 l7 : Option AV} {L2 : List (Nat × AV)} {St : List AV} {S : SS} : ev c 314 2413 [l0, l1, l2, l3, l4, l5, l6, l7] L2 St S = ev c 314 2414 [l0, l1, l2, l3, l4, l5, l6, l7] L2 (aI 0 :: St) S := ev_go i314_2413 rfl
theorem i314_2414 : insAt 314 2414 = some (.ireturn, 1, (0, 0, 0, 0), 0) := rfl
theorem s314_2414 {c : Nat → List AV → SS → Option Out} {l0 l1 l2 l3 l4 l5 l6 l7 : Option AV} {x : Int32} {L2 : List (Nat × AV)} {St : List AV} {S : SS} : ev c 314 2414 [l0, l1, l2, l3, l4, l5, l6, l7] L2 [aI x] S = if x = 0 ∨ x = 1 then some (.inl (some (aI x)), S) else none := ev_rt i314_2414 rfl
theorem i314_2415 : insAt 314 2415 = some (.iload 6, 2, (0, 0, 0, 0), 0) := rfl
theorem s314_2415 {c : Nat → List AV → SS → Option Out} {l0 l1 l2 l3 l4 l5 l7 : Option AV} {x : Int32} {L2 : List (Nat × AV)} {St : List AV} {S : SS} : ev c 314 2415 [l0, l1, l2, l3, l4, l5, some (aI x), l7] L2 St S = ev c 314 2417 [l0, l1, l2, l3, l4, l5, some (aI x), l7] L2 (aI x :: St) S := ev_go i314_2415 rfl
theorem i314_2417 : insAt 314 2417 = some (.ifCond .ne 15, 3, (0, 0, 0, 0), 0) := rfl
theorem s314_2417 {c : Nat → List AV → SS → Option Out} {l0 l1 l2 l3 l4 l5 l6 l7 : Option AV} {x : Int32} {L2 : List (Nat × AV)} {St : List AV} {S : SS} : ev c 314 2417 [l0, l1, l2, l3, l4, l5, l6, l7] L2 (aI x :: St) S = if x = 0 then ev c 314 2420 [l0, l1, l2, l3, l4, l5, l6, l7] L2 St S else ev c 314 2432 [l0, l1, l2, l3, l4, l5, l6, l7] L2 St S := (ev_br i314_2417 rfl).trans (ite_not _ _ _)
theorem i314_2420 : insAt 314 2420 = some (.aload_n 3, 1, (0, 0, 0, 0), 0) := rfl
theorem s314_2420 {c : Nat → List AV → SS → Option Out} {l0 l1 l2 l4 l5 l6 l7 : Option AV} {o : OId} {L2 : List (Nat × AV)} {St : List AV} {S : SS} : ev c 314 2420 [l0, l1, l2, some (aR o), l4, l5, l6, l7] L2 St S = ev c 314 2421 [l0, l1, l2, some (aR o), l4, l5, l6, l7] L2 (aR o :: St) S := ev_go i314_2420 rfl
theorem i314_2421 : insAt 314 2421 = some (.iconst 0, 1, (0, 0, 0, 0), 0) := rfl
theorem s314_2421 {c : Nat → List AV → SS → Option Out} {l0 l1 l2 l3 l4 l5 l6 l7 : Option AV} {L2 : List (Nat × AV)} {St : List AV} {S : SS} : ev c 314 2421 [l0, l1, l2, l3, l4, l5, l6, l7] L2 St S = ev c 314 2422 [l0, l1, l2, l3, l4, l5, l6, l7] L2 (aI 0 :: St) S := ev_go i314_2421 rfl
theorem i314_2422 : insAt 314 2422 = some (.laload, 1, (0, 0, 0, 0), 0) := rfl
theorem s314_2422 {c : Nat → List AV → SS → Option Out} {l0 l1 l2 l3 l4 l5 l6 l7 : Option AV} {i : Int32} {o : OId} {L2 : List (Nat × AV)} {St : List AV} {S : SS} : ev c 314 2422 [l0, l1, l2, l3, l4, l5, l6, l7] L2 (aI i :: aR o :: St) S = kJ o i (ev c 314 2423 [l0, l1, l2, l3, l4, l5, l6, l7] L2 (aL (toL (S.2.1 o i.toNatClampNeg)) :: St) S) := ev_laload i314_2422
theorem i314_2423 : insAt 314 2423 = some (.iload 7, 2, (0, 0, 0, 0), 0) := rfl
theorem s314_2423 {c : Nat → List AV → SS → Option Out} {l0 l1 l2 l3 l4 l5 l6 : Option AV} {x : Int32} {L2 : List (Nat × AV)} {St : List AV} {S : SS} : ev c 314 2423 [l0, l1, l2, l3, l4, l5, l6, some (aI x)] L2 St S = ev c 314 2425 [l0, l1, l2, l3, l4, l5, l6, some (aI x)] L2 (aI x :: St) S := ev_go i314_2423 rfl
theorem i314_2425 : insAt 314 2425 = some (.i2l, 1, (0, 0, 0, 0), 0) := rfl
theorem s314_2425 {c : Nat → List AV → SS → Option Out} {l0 l1 l2 l3 l4 l5 l6 l7 : Option AV} {x : Int32} {L2 : List (Nat × AV)} {St : List AV} {S : SS} : ev c 314 2425 [l0, l1, l2, l3, l4, l5, l6, l7] L2 (aI x :: St) S = ev c 314 2426 [l0, l1, l2, l3, l4, l5, l6, l7] L2 (aL x.toInt64 :: St) S := ev_go i314_2425 rfl
theorem i314_2426 : insAt 314 2426 = some (.lcmp, 1, (0, 0, 0, 0), 0) := rfl
theorem s314_2426 {c : Nat → List AV → SS → Option Out} {l0 l1 l2 l3 l4 l5 l6 l7 : Option AV} {x y : Int64} {L2 : List (Nat × AV)} {St : List AV} {S : SS} : ev c 314 2426 [l0, l1, l2, l3, l4, l5, l6, l7] L2 (aL y :: aL x :: St) S = ev c 314 2427 [l0, l1, l2, l3, l4, l5, l6, l7] L2 (aI (if x < y then -1 else if x = y then 0 else 1) :: St) S := ev_go i314_2426 rfl
theorem i314_2427 : insAt 314 2427 = some (.ifCond .eq 5, 3, (0, 0, 0, 0), 0) := rfl
theorem s314_2427 {c : Nat → List AV → SS → Option Out} {l0 l1 l2 l3 l4 l5 l6 l7 : Option AV} {x : Int32} {L2 : List (Nat × AV)} {St : List AV} {S : SS} : ev c 314 2427 [l0, l1, l2, l3, l4, l5, l6, l7] L2 (aI x :: St) S = if x = 0 then ev c 314 2432 [l0, l1, l2, l3, l4, l5, l6, l7] L2 St S else ev c 314 2430 [l0, l1, l2, l3, l4, l5, l6, l7] L2 St S := ev_br i314_2427 rfl
theorem i314_2430 : insAt 314 2430 = some (.iconst 0, 1, (0, 0, 0, 0), 0) := rfl
theorem s314_2430 {c : Nat → List AV → SS → Option Out} {l0 l1 l2 l3 l4 l5 l6 l7 : Option AV} {L2 : List (Nat × AV)} {St : List AV} {S : SS} : ev c 314 2430 [l0, l1, l2, l3, l4, l5, l6, l7] L2 St S = ev c 314 2431 [l0, l1, l2, l3, l4, l5, l6, l7] L2 (aI 0 :: St) S := ev_go i314_2430 rfl
theorem i314_2431 : insAt 314 2431 = some (.ireturn, 1, (0, 0, 0, 0), 0) := rfl
theorem s314_2431 {c : Nat → List AV → SS → Option Out} {l0 l1 l2 l3 l4 l5 l6 l7 : Option AV} {x : Int32} {L2 : List (Nat × AV)} {St : List AV} {S : SS} : ev c 314 2431 [l0, l1, l2, l3, l4, l5, l6, l7] L2 [aI x] S = if x = 0 ∨ x = 1 then some (.inl (some (aI x)), S) else none := ev_rt i314_2431 rfl
theorem i314_2432 : insAt 314 2432 = some (.goto 367, 3, (0, 0, 0, 0), 0) := rfl
theorem s314_2432 {c : Nat → List AV → SS → Option Out} {l0 l1 l2 l3 l4 l5 l6 l7 : Option AV} {L2 : List (Nat × AV)} {St : List AV} {S : SS} : ev c 314 2432 [l0, l1, l2, l3, l4, l5, l6, l7] L2 St S = ev c 314 2799 [l0, l1, l2, l3, l4, l5, l6, l7] L2 St S := ev_go i314_2432 rfl
theorem i314_2435 : insAt 314 2435 = some (.aload_n 1, 1, (0, 0, 0, 0), 0) := rfl
theorem s314_2435 {c : Nat → List AV → SS → Option Out} {l0 l2 l3 l4 l5 l6 l7 : Option AV} {o : OId} {L2 : List (Nat × AV)} {St : List AV} {S : SS} : ev c 314 2435 [l0, some (aR o), l2, l3, l4, l5, l6, l7] L2 St S = ev c 314 2436 [l0, some (aR o), l2, l3, l4, l5, l6, l7] L2 (aR o :: St) S := ev_go i314_2435 rfl
theorem i314_2436 : insAt 314 2436 = some (.aload_n 0, 1, (0, 0, 0, 0), 0) := rfl
theorem s314_2436 {c : Nat → List AV → SS → Option Out} {l1 l2 l3 l4 l5 l6 l7 : Option AV} {o : OId} {L2 : List (Nat × AV)} {St : List AV} {S : SS} : ev c 314 2436 [some (aR o), l1, l2, l3, l4, l5, l6, l7] L2 St S = ev c 314 2437 [some (aR o), l1, l2, l3, l4, l5, l6, l7] L2 (aR o :: St) S := ev_go i314_2436 rfl
theorem i314_2437 : insAt 314 2437 = some (.iload 5, 2, (0, 0, 0, 0), 0) := rfl
theorem s314_2437 {c : Nat → List AV → SS → Option Out} {l0 l1 l2 l3 l4 l6 l7 : Option AV} {x : Int32} {L2 : List (Nat × AV)} {St : List AV} {S : SS} : ev c 314 2437 [l0, l1, l2, l3, l4, some (aI x), l6, l7] L2 St S = ev c 314 2439 [l0, l1, l2, l3, l4, some (aI x), l6, l7] L2 (aI x :: St) S := ev_go i314_2437 rfl
theorem i314_2439 : insAt 314 2439 = some (.iconst 1, 1, (0, 0, 0, 0), 0) := rfl
theorem s314_2439 {c : Nat → List AV → SS → Option Out} {l0 l1 l2 l3 l4 l5 l6 l7 : Option AV} {L2 : List (Nat × AV)} {St : List AV} {S : SS} : ev c 314 2439 [l0, l1, l2, l3, l4, l5, l6, l7] L2 St S = ev c 314 2440 [l0, l1, l2, l3, l4, l5, l6, l7] L2 (aI 1 :: St) S := ev_go i314_2439 rfl
theorem i314_2440 : insAt 314 2440 = some (.iadd, 1, (0, 0, 0, 0), 0) := rfl
theorem s314_2440 {c : Nat → List AV → SS → Option Out} {l0 l1 l2 l3 l4 l5 l6 l7 : Option AV} {x y : Int32} {L2 : List (Nat × AV)} {St : List AV} {S : SS} : ev c 314 2440 [l0, l1, l2, l3, l4, l5, l6, l7] L2 (aI y :: aI x :: St) S = ev c 314 2441 [l0, l1, l2, l3, l4, l5, l6, l7] L2 (aI (x + y) :: St) S := ev_go i314_2440 rfl
theorem i314_2441 : insAt 314 2441 = some (.iaload, 1, (0, 0, 0, 0), 0) := rfl
theorem s314_2441 {c : Nat → List AV → SS → Option Out} {l0 l1 l2 l3 l4 l5 l6 l7 : Option AV} {i : Int32} {o : OId} {L2 : List (Nat × AV)} {St : List AV} {S : SS} : ev c 314 2441 [l0, l1, l2, l3, l4, l5, l6, l7] L2 (aI i :: aR o :: St) S = kI o i (ev c 314 2442 [l0, l1, l2, l3, l4, l5, l6, l7] L2 (aI (agI S o i.toNatClampNeg) :: St) S) := ev_iaload i314_2441
theorem i314_2442 : insAt 314 2442 = some (.aload_n 3, 1, (0, 0, 0, 0), 0) := rfl
theorem s314_2442 {c : Nat → List AV → SS → Option Out} {l0 l1 l2 l4 l5 l6 l7 : Option AV} {o : OId} {L2 : List (Nat × AV)} {St : List AV} {S : SS} : ev c 314 2442 [l0, l1, l2, some (aR o), l4, l5, l6, l7] L2 St S = ev c 314 2443 [l0, l1, l2, some (aR o), l4, l5, l6, l7] L2 (aR o :: St) S := ev_go i314_2442 rfl
theorem i314_2443 : insAt 314 2443 = some (.invokestatic 287, 3, (169, 3, 0, 0), 0) := rfl
theorem s314_2443 {c : Nat → List AV → SS → Option Out} {l0 l1 l2 l3 l4 l5 l6 l7 : Option AV} {a0 : OId} {a1 : Int32} {a2 : OId} {L2 : List (Nat × AV)} {S : SS} : ev c 314 2443 [l0, l1, l2, l3, l4, l5, l6, l7] L2 [aR a2, aI a1, aR a0] S = ck (c 169 [aR a0, aI a1, aR a2] S) (fun v S' => ev c 314 2446 [l0, l1, l2, l3, l4, l5, l6, l7] L2 (v.toList ++ []) S') := ev_call i314_2443 rfl
theorem i314_2446 : insAt 314 2446 = some (.istore 6, 2, (0, 0, 0, 0), 0) := rfl
theorem s314_2446 {c : Nat → List AV → SS → Option Out} {l0 l1 l2 l3 l4 l5 l6 l7 : Option AV} {x : Int32} {L2 : List (Nat × AV)} {St : List AV} {S : SS} : ev c 314 2446 [l0, l1, l2, l3, l4, l5, l6, l7] L2 (aI x :: St) S = ev c 314 2448 [l0, l1, l2, l3, l4, l5, some (aI x), l7] (kil L2 6) St S := ev_go i314_2446 rfl
theorem i314_2448 : insAt 314 2448 = some (.aload_n 2, 1, (0, 0, 0, 0), 0) := rfl
theorem s314_2448 {c : Nat → List AV → SS → Option Out} {l0 l1 l3 l4 l5 l6 l7 : Option AV} {o : OId} {L2 : List (Nat × AV)} {St : List AV} {S : SS} : ev c 314 2448 [l0, l1, some (aR o), l3, l4, l5, l6, l7] L2 St S = ev c 314 2449 [l0, l1, some (aR o), l3, l4, l5, l6, l7] L2 (aR o :: St) S := ev_go i314_2448 rfl
theorem i314_2449 : insAt 314 2449 = some (.aload_n 0, 1, (0, 0, 0, 0), 0) := rfl
theorem s314_2449 {c : Nat → List AV → SS → Option Out} {l1 l2 l3 l4 l5 l6 l7 : Option AV} {o : OId} {L2 : List (Nat × AV)} {St : List AV} {S : SS} : ev c 314 2449 [some (aR o), l1, l2, l3, l4, l5, l6, l7] L2 St S = ev c 314 2450 [some (aR o), l1, l2, l3, l4, l5, l6, l7] L2 (aR o :: St) S := ev_go i314_2449 rfl
theorem i314_2450 : insAt 314 2450 = some (.iload 5, 2, (0, 0, 0, 0), 0) := rfl
theorem s314_2450 {c : Nat → List AV → SS → Option Out} {l0 l1 l2 l3 l4 l6 l7 : Option AV} {x : Int32} {L2 : List (Nat × AV)} {St : List AV} {S : SS} : ev c 314 2450 [l0, l1, l2, l3, l4, some (aI x), l6, l7] L2 St S = ev c 314 2452 [l0, l1, l2, l3, l4, some (aI x), l6, l7] L2 (aI x :: St) S := ev_go i314_2450 rfl
theorem i314_2452 : insAt 314 2452 = some (.iconst 1, 1, (0, 0, 0, 0), 0) := rfl
theorem s314_2452 {c : Nat → List AV → SS → Option Out} {l0 l1 l2 l3 l4 l5 l6 l7 : Option AV} {L2 : List (Nat × AV)} {St : List AV} {S : SS} : ev c 314 2452 [l0, l1, l2, l3, l4, l5, l6, l7] L2 St S = ev c 314 2453 [l0, l1, l2, l3, l4, l5, l6, l7] L2 (aI 1 :: St) S := ev_go i314_2452 rfl
theorem i314_2453 : insAt 314 2453 = some (.iadd, 1, (0, 0, 0, 0), 0) := rfl
theorem s314_2453 {c : Nat → List AV → SS → Option Out} {l0 l1 l2 l3 l4 l5 l6 l7 : Option AV} {x y : Int32} {L2 : List (Nat × AV)} {St : List AV} {S : SS} : ev c 314 2453 [l0, l1, l2, l3, l4, l5, l6, l7] L2 (aI y :: aI x :: St) S = ev c 314 2454 [l0, l1, l2, l3, l4, l5, l6, l7] L2 (aI (x + y) :: St) S := ev_go i314_2453 rfl
theorem i314_2454 : insAt 314 2454 = some (.iaload, 1, (0, 0, 0, 0), 0) := rfl
theorem s314_2454 {c : Nat → List AV → SS → Option Out} {l0 l1 l2 l3 l4 l5 l6 l7 : Option AV} {i : Int32} {o : OId} {L2 : List (Nat × AV)} {St : List AV} {S : SS} : ev c 314 2454 [l0, l1, l2, l3, l4, l5, l6, l7] L2 (aI i :: aR o :: St) S = kI o i (ev c 314 2455 [l0, l1, l2, l3, l4, l5, l6, l7] L2 (aI (agI S o i.toNatClampNeg) :: St) S) := ev_iaload i314_2454
theorem i314_2455 : insAt 314 2455 = some (.invokevirtual 289, 3, (300, 1, 2, 12), 0) := rfl
theorem s314_2455 {c : Nat → List AV → SS → Option Out} {l0 l1 l2 l3 l4 l5 l6 l7 : Option AV} {a0 : Int32} {j t : Nat} {L2 : List (Nat × AV)} {S : SS} : ev c 314 2455 [l0, l1, l2, l3, l4, l5, l6, l7] L2 [aI a0, aR (12, j, t)] S = ck (c 300 [aR (12, j, t), aI a0] S) (fun v S' => ev c 314 2458 [l0, l1, l2, l3, l4, l5, l6, l7] L2 (v.toList ++ []) S') := ev_call i314_2455 rfl
theorem i314_2458 : insAt 314 2458 = some (.istore 7, 2, (0, 0, 0, 0), 0) := rfl
theorem s314_2458 {c : Nat → List AV → SS → Option Out} {l0 l1 l2 l3 l4 l5 l6 l7 : Option AV} {x : Int32} {L2 : List (Nat × AV)} {St : List AV} {S : SS} : ev c 314 2458 [l0, l1, l2, l3, l4, l5, l6, l7] L2 (aI x :: St) S = ev c 314 2460 [l0, l1, l2, l3, l4, l5, l6, some (aI x)] (kil L2 7) St S := ev_go i314_2458 rfl
theorem i314_2460 : insAt 314 2460 = some (.aload_n 2, 1, (0, 0, 0, 0), 0) := rfl
theorem s314_2460 {c : Nat → List AV → SS → Option Out} {l0 l1 l3 l4 l5 l6 l7 : Option AV} {o : OId} {L2 : List (Nat × AV)} {St : List AV} {S : SS} : ev c 314 2460 [l0, l1, some (aR o), l3, l4, l5, l6, l7] L2 St S = ev c 314 2461 [l0, l1, some (aR o), l3, l4, l5, l6, l7] L2 (aR o :: St) S := ev_go i314_2460 rfl
theorem i314_2461 : insAt 314 2461 = some (.invokevirtual 149, 3, (218, 0, 2, 12), 0) := rfl
theorem s314_2461 {c : Nat → List AV → SS → Option Out} {l0 l1 l2 l3 l4 l5 l6 l7 : Option AV} {j t : Nat} {L2 : List (Nat × AV)} {S : SS} : ev c 314 2461 [l0, l1, l2, l3, l4, l5, l6, l7] L2 [aR (12, j, t)] S = ck (c 218 [aR (12, j, t)] S) (fun v S' => ev c 314 2464 [l0, l1, l2, l3, l4, l5, l6, l7] L2 (v.toList ++ []) S') := ev_call i314_2461 rfl
theorem i314_2464 : insAt 314 2464 = some (.iload 6, 2, (0, 0, 0, 0), 0) := rfl
theorem s314_2464 {c : Nat → List AV → SS → Option Out} {l0 l1 l2 l3 l4 l5 l7 : Option AV} {x : Int32} {L2 : List (Nat × AV)} {St : List AV} {S : SS} : ev c 314 2464 [l0, l1, l2, l3, l4, l5, some (aI x), l7] L2 St S = ev c 314 2466 [l0, l1, l2, l3, l4, l5, some (aI x), l7] L2 (aI x :: St) S := ev_go i314_2464 rfl
theorem i314_2466 : insAt 314 2466 = some (.if_icmp .eq 5, 3, (0, 0, 0, 0), 0) := rfl
theorem s314_2466 {c : Nat → List AV → SS → Option Out} {l0 l1 l2 l3 l4 l5 l6 l7 : Option AV} {x y : Int32} {L2 : List (Nat × AV)} {St : List AV} {S : SS} : ev c 314 2466 [l0, l1, l2, l3, l4, l5, l6, l7] L2 (aI y :: aI x :: St) S = if x = y then ev c 314 2471 [l0, l1, l2, l3, l4, l5, l6, l7] L2 St S else ev c 314 2469 [l0, l1, l2, l3, l4, l5, l6, l7] L2 St S := ev_br i314_2466 rfl
theorem i314_2469 : insAt 314 2469 = some (.iconst 0, 1, (0, 0, 0, 0), 0) := rfl
theorem s314_2469 {c : Nat → List AV → SS → Option Out} {l0 l1 l2 l3 l4 l5 l6 l7 : Option AV} {L2 : List (Nat × AV)} {St : List AV} {S : SS} : ev c 314 2469 [l0, l1, l2, l3, l4, l5, l6, l7] L2 St S = ev c 314 2470 [l0, l1, l2, l3, l4, l5, l6, l7] L2 (aI 0 :: St) S := ev_go i314_2469 rfl
theorem i314_2470 : insAt 314 2470 = some (.ireturn, 1, (0, 0, 0, 0), 0) := rfl
theorem s314_2470 {c : Nat → List AV → SS → Option Out} {l0 l1 l2 l3 l4 l5 l6 l7 : Option AV} {x : Int32} {L2 : List (Nat × AV)} {St : List AV} {S : SS} : ev c 314 2470 [l0, l1, l2, l3, l4, l5, l6, l7] L2 [aI x] S = if x = 0 ∨ x = 1 then some (.inl (some (aI x)), S) else none := ev_rt i314_2470 rfl
theorem i314_2471 : insAt 314 2471 = some (.iload 6, 2, (0, 0, 0, 0), 0) := rfl
theorem s314_2471 {c : Nat → List AV → SS → Option Out} {l0 l1 l2 l3 l4 l5 l7 : Option AV} {x : Int32} {L2 : List (Nat × AV)} {St : List AV} {S : SS} : ev c 314 2471 [l0, l1, l2, l3, l4, l5, some (aI x), l7] L2 St S = ev c 314 2473 [l0, l1, l2, l3, l4, l5, some (aI x), l7] L2 (aI x :: St) S := ev_go i314_2471 rfl
theorem i314_2473 : insAt 314 2473 = some (.ifCond .ne 15, 3, (0, 0, 0, 0), 0) := rfl
theorem s314_2473 {c : Nat → List AV → SS → Option Out} {l0 l1 l2 l3 l4 l5 l6 l7 : Option AV} {x : Int32} {L2 : List (Nat × AV)} {St : List AV} {S : SS} : ev c 314 2473 [l0, l1, l2, l3, l4, l5, l6, l7] L2 (aI x :: St) S = if x = 0 then ev c 314 2476 [l0, l1, l2, l3, l4, l5, l6, l7] L2 St S else ev c 314 2488 [l0, l1, l2, l3, l4, l5, l6, l7] L2 St S := (ev_br i314_2473 rfl).trans (ite_not _ _ _)
theorem i314_2476 : insAt 314 2476 = some (.aload_n 3, 1, (0, 0, 0, 0), 0) := rfl
theorem s314_2476 {c : Nat → List AV → SS → Option Out} {l0 l1 l2 l4 l5 l6 l7 : Option AV} {o : OId} {L2 : List (Nat × AV)} {St : List AV} {S : SS} : ev c 314 2476 [l0, l1, l2, some (aR o), l4, l5, l6, l7] L2 St S = ev c 314 2477 [l0, l1, l2, some (aR o), l4, l5, l6, l7] L2 (aR o :: St) S := ev_go i314_2476 rfl
theorem i314_2477 : insAt 314 2477 = some (.iconst 0, 1, (0, 0, 0, 0), 0) := rfl
theorem s314_2477 {c : Nat → List AV → SS → Option Out} {l0 l1 l2 l3 l4 l5 l6 l7 : Option AV} {L2 : List (Nat × AV)} {St : List AV} {S : SS} : ev c 314 2477 [l0, l1, l2, l3, l4, l5, l6, l7] L2 St S = ev c 314 2478 [l0, l1, l2, l3, l4, l5, l6, l7] L2 (aI 0 :: St) S := ev_go i314_2477 rfl
theorem i314_2478 : insAt 314 2478 = some (.laload, 1, (0, 0, 0, 0), 0) := rfl
theorem s314_2478 {c : Nat → List AV → SS → Option Out} {l0 l1 l2 l3 l4 l5 l6 l7 : Option AV} {i : Int32} {o : OId} {L2 : List (Nat × AV)} {St : List AV} {S : SS} : ev c 314 2478 [l0, l1, l2, l3, l4, l5, l6, l7] L2 (aI i :: aR o :: St) S = kJ o i (ev c 314 2479 [l0, l1, l2, l3, l4, l5, l6, l7] L2 (aL (toL (S.2.1 o i.toNatClampNeg)) :: St) S) := ev_laload i314_2478
theorem i314_2479 : insAt 314 2479 = some (.iload 7, 2, (0, 0, 0, 0), 0) := rfl
theorem s314_2479 {c : Nat → List AV → SS → Option Out} {l0 l1 l2 l3 l4 l5 l6 : Option AV} {x : Int32} {L2 : List (Nat × AV)} {St : List AV} {S : SS} : ev c 314 2479 [l0, l1, l2, l3, l4, l5, l6, some (aI x)] L2 St S = ev c 314 2481 [l0, l1, l2, l3, l4, l5, l6, some (aI x)] L2 (aI x :: St) S := ev_go i314_2479 rfl
theorem i314_2481 : insAt 314 2481 = some (.i2l, 1, (0, 0, 0, 0), 0) := rfl
theorem s314_2481 {c : Nat → List AV → SS → Option Out} {l0 l1 l2 l3 l4 l5 l6 l7 : Option AV} {x : Int32} {L2 : List (Nat × AV)} {St : List AV} {S : SS} : ev c 314 2481 [l0, l1, l2, l3, l4, l5, l6, l7] L2 (aI x :: St) S = ev c 314 2482 [l0, l1, l2, l3, l4, l5, l6, l7] L2 (aL x.toInt64 :: St) S := ev_go i314_2481 rfl
theorem i314_2482 : insAt 314 2482 = some (.lcmp, 1, (0, 0, 0, 0), 0) := rfl
theorem s314_2482 {c : Nat → List AV → SS → Option Out} {l0 l1 l2 l3 l4 l5 l6 l7 : Option AV} {x y : Int64} {L2 : List (Nat × AV)} {St : List AV} {S : SS} : ev c 314 2482 [l0, l1, l2, l3, l4, l5, l6, l7] L2 (aL y :: aL x :: St) S = ev c 314 2483 [l0, l1, l2, l3, l4, l5, l6, l7] L2 (aI (if x < y then -1 else if x = y then 0 else 1) :: St) S := ev_go i314_2482 rfl
theorem i314_2483 : insAt 314 2483 = some (.ifCond .eq 5, 3, (0, 0, 0, 0), 0) := rfl
theorem s314_2483 {c : Nat → List AV → SS → Option Out} {l0 l1 l2 l3 l4 l5 l6 l7 : Option AV} {x : Int32} {L2 : List (Nat × AV)} {St : List AV} {S : SS} : ev c 314 2483 [l0, l1, l2, l3, l4, l5, l6, l7] L2 (aI x :: St) S = if x = 0 then ev c 314 2488 [l0, l1, l2, l3, l4, l5, l6, l7] L2 St S else ev c 314 2486 [l0, l1, l2, l3, l4, l5, l6, l7] L2 St S := ev_br i314_2483 rfl
theorem i314_2486 : insAt 314 2486 = some (.iconst 0, 1, (0, 0, 0, 0), 0) := rfl
theorem s314_2486 {c : Nat → List AV → SS → Option Out} {l0 l1 l2 l3 l4 l5 l6 l7 : Option AV} {L2 : List (Nat × AV)} {St : List AV} {S : SS} : ev c 314 2486 [l0, l1, l2, l3, l4, l5, l6, l7] L2 St S = ev c 314 2487 [l0, l1, l2, l3, l4, l5, l6, l7] L2 (aI 0 :: St) S := ev_go i314_2486 rfl
theorem i314_2487 : insAt 314 2487 = some (.ireturn, 1, (0, 0, 0, 0), 0) := rfl
theorem s314_2487 {c : Nat → List AV → SS → Option Out} {l0 l1 l2 l3 l4 l5 l6 l7 : Option AV} {x : Int32} {L2 : List (Nat × AV)} {St : List AV} {S : SS} : ev c 314 2487 [l0, l1, l2, l3, l4, l5, l6, l7] L2 [aI x] S = if x = 0 ∨ x = 1 then some (.inl (some (aI x)), S) else none := ev_rt i314_2487 rfl
theorem i314_2488 : insAt 314 2488 = some (.goto 311, 3, (0, 0, 0, 0), 0) := rfl
theorem s314_2488 {c : Nat → List AV → SS → Option Out} {l0 l1 l2 l3 l4 l5 l6 l7 : Option AV} {L2 : List (Nat × AV)} {St : List AV} {S : SS} : ev c 314 2488 [l0, l1, l2, l3, l4, l5, l6, l7] L2 St S = ev c 314 2799 [l0, l1, l2, l3, l4, l5, l6, l7] L2 St S := ev_go i314_2488 rfl
theorem i314_2491 : insAt 314 2491 = some (.aload_n 1, 1, (0, 0, 0, 0), 0) := rfl
theorem s314_2491 {c : Nat → List AV → SS → Option Out} {l0 l2 l3 l4 l5 l6 l7 : Option AV} {o : OId} {L2 : List (Nat × AV)} {St : List AV} {S : SS} : ev c 314 2491 [l0, some (aR o), l2, l3, l4, l5, l6, l7] L2 St S = ev c 314 2492 [l0, some (aR o), l2, l3, l4, l5, l6, l7] L2 (aR o :: St) S := ev_go i314_2491 rfl
theorem i314_2492 : insAt 314 2492 = some (.aload_n 0, 1, (0, 0, 0, 0), 0) := rfl
theorem s314_2492 {c : Nat → List AV → SS → Option Out} {l1 l2 l3 l4 l5 l6 l7 : Option AV} {o : OId} {L2 : List (Nat × AV)} {St : List AV} {S : SS} : ev c 314 2492 [some (aR o), l1, l2, l3, l4, l5, l6, l7] L2 St S = ev c 314 2493 [some (aR o), l1, l2, l3, l4, l5, l6, l7] L2 (aR o :: St) S := ev_go i314_2492 rfl
theorem i314_2493 : insAt 314 2493 = some (.iload 5, 2, (0, 0, 0, 0), 0) := rfl
theorem s314_2493 {c : Nat → List AV → SS → Option Out} {l0 l1 l2 l3 l4 l6 l7 : Option AV} {x : Int32} {L2 : List (Nat × AV)} {St : List AV} {S : SS} : ev c 314 2493 [l0, l1, l2, l3, l4, some (aI x), l6, l7] L2 St S = ev c 314 2495 [l0, l1, l2, l3, l4, some (aI x), l6, l7] L2 (aI x :: St) S := ev_go i314_2493 rfl
theorem i314_2495 : insAt 314 2495 = some (.iconst 1, 1, (0, 0, 0, 0), 0) := rfl
theorem s314_2495 {c : Nat → List AV → SS → Option Out} {l0 l1 l2 l3 l4 l5 l6 l7 : Option AV} {L2 : List (Nat × AV)} {St : List AV} {S : SS} : ev c 314 2495 [l0, l1, l2, l3, l4, l5, l6, l7] L2 St S = ev c 314 2496 [l0, l1, l2, l3, l4, l5, l6, l7] L2 (aI 1 :: St) S := ev_go i314_2495 rfl
theorem i314_2496 : insAt 314 2496 = some (.iadd, 1, (0, 0, 0, 0), 0) := rfl
theorem s314_2496 {c : Nat → List AV → SS → Option Out} {l0 l1 l2 l3 l4 l5 l6 l7 : Option AV} {x y : Int32} {L2 : List (Nat × AV)} {St : List AV} {S : SS} : ev c 314 2496 [l0, l1, l2, l3, l4, l5, l6, l7] L2 (aI y :: aI x :: St) S = ev c 314 2497 [l0, l1, l2, l3, l4, l5, l6, l7] L2 (aI (x + y) :: St) S := ev_go i314_2496 rfl
theorem i314_2497 : insAt 314 2497 = some (.iaload, 1, (0, 0, 0, 0), 0) := rfl
theorem s314_2497 {c : Nat → List AV → SS → Option Out} {l0 l1 l2 l3 l4 l5 l6 l7 : Option AV} {i : Int32} {o : OId} {L2 : List (Nat × AV)} {St : List AV} {S : SS} : ev c 314 2497 [l0, l1, l2, l3, l4, l5, l6, l7] L2 (aI i :: aR o :: St) S = kI o i (ev c 314 2498 [l0, l1, l2, l3, l4, l5, l6, l7] L2 (aI (agI S o i.toNatClampNeg) :: St) S) := ev_iaload i314_2497
theorem i314_2498 : insAt 314 2498 = some (.aload_n 3, 1, (0, 0, 0, 0), 0) := rfl
theorem s314_2498 {c : Nat → List AV → SS → Option Out} {l0 l1 l2 l4 l5 l6 l7 : Option AV} {o : OId} {L2 : List (Nat × AV)} {St : List AV} {S : SS} : ev c 314 2498 [l0, l1, l2, some (aR o), l4, l5, l6, l7] L2 St S = ev c 314 2499 [l0, l1, l2, some (aR o), l4, l5, l6, l7] L2 (aR o :: St) S := ev_go i314_2498 rfl
theorem i314_2499 : insAt 314 2499 = some (.invokestatic 290, 3, (171, 3, 0, 0), 0) := rfl
theorem s314_2499 {c : Nat → List AV → SS → Option Out} {l0 l1 l2 l3 l4 l5 l6 l7 : Option AV} {a0 : OId} {a1 : Int32} {a2 : OId} {L2 : List (Nat × AV)} {S : SS} : ev c 314 2499 [l0, l1, l2, l3, l4, l5, l6, l7] L2 [aR a2, aI a1, aR a0] S = ck (c 171 [aR a0, aI a1, aR a2] S) (fun v S' => ev c 314 2502 [l0, l1, l2, l3, l4, l5, l6, l7] L2 (v.toList ++ []) S') := ev_call i314_2499 rfl
theorem i314_2502 : insAt 314 2502 = some (.istore 6, 2, (0, 0, 0, 0), 0) := rfl
theorem s314_2502 {c : Nat → List AV → SS → Option Out} {l0 l1 l2 l3 l4 l5 l6 l7 : Option AV} {x : Int32} {L2 : List (Nat × AV)} {St : List AV} {S : SS} : ev c 314 2502 [l0, l1, l2, l3, l4, l5, l6, l7] L2 (aI x :: St) S = ev c 314 2504 [l0, l1, l2, l3, l4, l5, some (aI x), l7] (kil L2 6) St S := ev_go i314_2502 rfl
theorem i314_2504 : insAt 314 2504 = some (.aload_n 2, 1, (0, 0, 0, 0), 0) := rfl
theorem s314_2504 {c : Nat → List AV → SS → Option Out} {l0 l1 l3 l4 l5 l6 l7 : Option AV} {o : OId} {L2 : List (Nat × AV)} {St : List AV} {S : SS} : ev c 314 2504 [l0, l1, some (aR o), l3, l4, l5, l6, l7] L2 St S = ev c 314 2505 [l0, l1, some (aR o), l3, l4, l5, l6, l7] L2 (aR o :: St) S := ev_go i314_2504 rfl
theorem i314_2505 : insAt 314 2505 = some (.aload_n 0, 1, (0, 0, 0, 0), 0) := rfl
theorem s314_2505 {c : Nat → List AV → SS → Option Out} {l1 l2 l3 l4 l5 l6 l7 : Option AV} {o : OId} {L2 : List (Nat × AV)} {St : List AV} {S : SS} : ev c 314 2505 [some (aR o), l1, l2, l3, l4, l5, l6, l7] L2 St S = ev c 314 2506 [some (aR o), l1, l2, l3, l4, l5, l6, l7] L2 (aR o :: St) S := ev_go i314_2505 rfl
theorem i314_2506 : insAt 314 2506 = some (.iload 5, 2, (0, 0, 0, 0), 0) := rfl
theorem s314_2506 {c : Nat → List AV → SS → Option Out} {l0 l1 l2 l3 l4 l6 l7 : Option AV} {x : Int32} {L2 : List (Nat × AV)} {St : List AV} {S : SS} : ev c 314 2506 [l0, l1, l2, l3, l4, some (aI x), l6, l7] L2 St S = ev c 314 2508 [l0, l1, l2, l3, l4, some (aI x), l6, l7] L2 (aI x :: St) S := ev_go i314_2506 rfl
theorem i314_2508 : insAt 314 2508 = some (.iconst 1, 1, (0, 0, 0, 0), 0) := rfl
theorem s314_2508 {c : Nat → List AV → SS → Option Out} {l0 l1 l2 l3 l4 l5 l6 l7 : Option AV} {L2 : List (Nat × AV)} {St : List AV} {S : SS} : ev c 314 2508 [l0, l1, l2, l3, l4, l5, l6, l7] L2 St S = ev c 314 2509 [l0, l1, l2, l3, l4, l5, l6, l7] L2 (aI 1 :: St) S := ev_go i314_2508 rfl
theorem i314_2509 : insAt 314 2509 = some (.iadd, 1, (0, 0, 0, 0), 0) := rfl
theorem s314_2509 {c : Nat → List AV → SS → Option Out} {l0 l1 l2 l3 l4 l5 l6 l7 : Option AV} {x y : Int32} {L2 : List (Nat × AV)} {St : List AV} {S : SS} : ev c 314 2509 [l0, l1, l2, l3, l4, l5, l6, l7] L2 (aI y :: aI x :: St) S = ev c 314 2510 [l0, l1, l2, l3, l4, l5, l6, l7] L2 (aI (x + y) :: St) S := ev_go i314_2509 rfl
theorem i314_2510 : insAt 314 2510 = some (.iaload, 1, (0, 0, 0, 0), 0) := rfl
theorem s314_2510 {c : Nat → List AV → SS → Option Out} {l0 l1 l2 l3 l4 l5 l6 l7 : Option AV} {i : Int32} {o : OId} {L2 : List (Nat × AV)} {St : List AV} {S : SS} : ev c 314 2510 [l0, l1, l2, l3, l4, l5, l6, l7] L2 (aI i :: aR o :: St) S = kI o i (ev c 314 2511 [l0, l1, l2, l3, l4, l5, l6, l7] L2 (aI (agI S o i.toNatClampNeg) :: St) S) := ev_iaload i314_2510
theorem i314_2511 : insAt 314 2511 = some (.invokevirtual 292, 3, (301, 1, 2, 12), 0) := rfl
theorem s314_2511 {c : Nat → List AV → SS → Option Out} {l0 l1 l2 l3 l4 l5 l6 l7 : Option AV} {a0 : Int32} {j t : Nat} {L2 : List (Nat × AV)} {S : SS} : ev c 314 2511 [l0, l1, l2, l3, l4, l5, l6, l7] L2 [aI a0, aR (12, j, t)] S = ck (c 301 [aR (12, j, t), aI a0] S) (fun v S' => ev c 314 2514 [l0, l1, l2, l3, l4, l5, l6, l7] L2 (v.toList ++ []) S') := ev_call i314_2511 rfl
theorem i314_2514 : insAt 314 2514 = some (.istore 7, 2, (0, 0, 0, 0), 0) := rfl
theorem s314_2514 {c : Nat → List AV → SS → Option Out} {l0 l1 l2 l3 l4 l5 l6 l7 : Option AV} {x : Int32} {L2 : List (Nat × AV)} {St : List AV} {S : SS} : ev c 314 2514 [l0, l1, l2, l3, l4, l5, l6, l7] L2 (aI x :: St) S = ev c 314 2516 [l0, l1, l2, l3, l4, l5, l6, some (aI x)] (kil L2 7) St S := ev_go i314_2514 rfl
theorem i314_2516 : insAt 314 2516 = some (.aload_n 2, 1, (0, 0, 0, 0), 0) := rfl
theorem s314_2516 {c : Nat → List AV → SS → Option Out} {l0 l1 l3 l4 l5 l6 l7 : Option AV} {o : OId} {L2 : List (Nat × AV)} {St : List AV} {S : SS} : ev c 314 2516 [l0, l1, some (aR o), l3, l4, l5, l6, l7] L2 St S = ev c 314 2517 [l0, l1, some (aR o), l3, l4, l5, l6, l7] L2 (aR o :: St) S := ev_go i314_2516 rfl
theorem i314_2517 : insAt 314 2517 = some (.invokevirtual 149, 3, (218, 0, 2, 12), 0) := rfl
theorem s314_2517 {c : Nat → List AV → SS → Option Out} {l0 l1 l2 l3 l4 l5 l6 l7 : Option AV} {j t : Nat} {L2 : List (Nat × AV)} {S : SS} : ev c 314 2517 [l0, l1, l2, l3, l4, l5, l6, l7] L2 [aR (12, j, t)] S = ck (c 218 [aR (12, j, t)] S) (fun v S' => ev c 314 2520 [l0, l1, l2, l3, l4, l5, l6, l7] L2 (v.toList ++ []) S') := ev_call i314_2517 rfl
theorem i314_2520 : insAt 314 2520 = some (.iload 6, 2, (0, 0, 0, 0), 0) := rfl
theorem s314_2520 {c : Nat → List AV → SS → Option Out} {l0 l1 l2 l3 l4 l5 l7 : Option AV} {x : Int32} {L2 : List (Nat × AV)} {St : List AV} {S : SS} : ev c 314 2520 [l0, l1, l2, l3, l4, l5, some (aI x), l7] L2 St S = ev c 314 2522 [l0, l1, l2, l3, l4, l5, some (aI x), l7] L2 (aI x :: St) S := ev_go i314_2520 rfl
theorem i314_2522 : insAt 314 2522 = some (.if_icmp .eq 5, 3, (0, 0, 0, 0), 0) := rfl
theorem s314_2522 {c : Nat → List AV → SS → Option Out} {l0 l1 l2 l3 l4 l5 l6 l7 : Option AV} {x y : Int32} {L2 : List (Nat × AV)} {St : List AV} {S : SS} : ev c 314 2522 [l0, l1, l2, l3, l4, l5, l6, l7] L2 (aI y :: aI x :: St) S = if x = y then ev c 314 2527 [l0, l1, l2, l3, l4, l5, l6, l7] L2 St S else ev c 314 2525 [l0, l1, l2, l3, l4, l5, l6, l7] L2 St S := ev_br i314_2522 rfl
theorem i314_2525 : insAt 314 2525 = some (.iconst 0, 1, (0, 0, 0, 0), 0) := rfl
theorem s314_2525 {c : Nat → List AV → SS → Option Out} {l0 l1 l2 l3 l4 l5 l6 l7 : Option AV} {L2 : List (Nat × AV)} {St : List AV} {S : SS} : ev c 314 2525 [l0, l1, l2, l3, l4, l5, l6, l7] L2 St S = ev c 314 2526 [l0, l1, l2, l3, l4, l5, l6, l7] L2 (aI 0 :: St) S := ev_go i314_2525 rfl
theorem i314_2526 : insAt 314 2526 = some (.ireturn, 1, (0, 0, 0, 0), 0) := rfl
theorem s314_2526 {c : Nat → List AV → SS → Option Out} {l0 l1 l2 l3 l4 l5 l6 l7 : Option AV} {x : Int32} {L2 : List (Nat × AV)} {St : List AV} {S : SS} : ev c 314 2526 [l0, l1, l2, l3, l4, l5, l6, l7] L2 [aI x] S = if x = 0 ∨ x = 1 then some (.inl (some (aI x)), S) else none := ev_rt i314_2526 rfl
theorem i314_2527 : insAt 314 2527 = some (.iload 6, 2, (0, 0, 0, 0), 0) := rfl
theorem s314_2527 {c : Nat → List AV → SS → Option Out} {l0 l1 l2 l3 l4 l5 l7 : Option AV} {x : Int32} {L2 : List (Nat × AV)} {St : List AV} {S : SS} : ev c 314 2527 [l0, l1, l2, l3, l4, l5, some (aI x), l7] L2 St S = ev c 314 2529 [l0, l1, l2, l3, l4, l5, some (aI x), l7] L2 (aI x :: St) S := ev_go i314_2527 rfl
theorem i314_2529 : insAt 314 2529 = some (.ifCond .ne 15, 3, (0, 0, 0, 0), 0) := rfl
theorem s314_2529 {c : Nat → List AV → SS → Option Out} {l0 l1 l2 l3 l4 l5 l6 l7 : Option AV} {x : Int32} {L2 : List (Nat × AV)} {St : List AV} {S : SS} : ev c 314 2529 [l0, l1, l2, l3, l4, l5, l6, l7] L2 (aI x :: St) S = if x = 0 then ev c 314 2532 [l0, l1, l2, l3, l4, l5, l6, l7] L2 St S else ev c 314 2544 [l0, l1, l2, l3, l4, l5, l6, l7] L2 St S := (ev_br i314_2529 rfl).trans (ite_not _ _ _)
theorem i314_2532 : insAt 314 2532 = some (.aload_n 3, 1, (0, 0, 0, 0), 0) := rfl
theorem s314_2532 {c : Nat → List AV → SS → Option Out} {l0 l1 l2 l4 l5 l6 l7 : Option AV} {o : OId} {L2 : List (Nat × AV)} {St : List AV} {S : SS} : ev c 314 2532 [l0, l1, l2, some (aR o), l4, l5, l6, l7] L2 St S = ev c 314 2533 [l0, l1, l2, some (aR o), l4, l5, l6, l7] L2 (aR o :: St) S := ev_go i314_2532 rfl
theorem i314_2533 : insAt 314 2533 = some (.iconst 0, 1, (0, 0, 0, 0), 0) := rfl
theorem s314_2533 {c : Nat → List AV → SS → Option Out} {l0 l1 l2 l3 l4 l5 l6 l7 : Option AV} {L2 : List (Nat × AV)} {St : List AV} {S : SS} : ev c 314 2533 [l0, l1, l2, l3, l4, l5, l6, l7] L2 St S = ev c 314 2534 [l0, l1, l2, l3, l4, l5, l6, l7] L2 (aI 0 :: St) S := ev_go i314_2533 rfl
theorem i314_2534 : insAt 314 2534 = some (.laload, 1, (0, 0, 0, 0), 0) := rfl
theorem s314_2534 {c : Nat → List AV → SS → Option Out} {l0 l1 l2 l3 l4 l5 l6 l7 : Option AV} {i : Int32} {o : OId} {L2 : List (Nat × AV)} {St : List AV} {S : SS} : ev c 314 2534 [l0, l1, l2, l3, l4, l5, l6, l7] L2 (aI i :: aR o :: St) S = kJ o i (ev c 314 2535 [l0, l1, l2, l3, l4, l5, l6, l7] L2 (aL (toL (S.2.1 o i.toNatClampNeg)) :: St) S) := ev_laload i314_2534
theorem i314_2535 : insAt 314 2535 = some (.iload 7, 2, (0, 0, 0, 0), 0) := rfl
theorem s314_2535 {c : Nat → List AV → SS → Option Out} {l0 l1 l2 l3 l4 l5 l6 : Option AV} {x : Int32} {L2 : List (Nat × AV)} {St : List AV} {S : SS} : ev c 314 2535 [l0, l1, l2, l3, l4, l5, l6, some (aI x)] L2 St S = ev c 314 2537 [l0, l1, l2, l3, l4, l5, l6, some (aI x)] L2 (aI x :: St) S := ev_go i314_2535 rfl
theorem i314_2537 : insAt 314 2537 = some (.i2l, 1, (0, 0, 0, 0), 0) := rfl
theorem s314_2537 {c : Nat → List AV → SS → Option Out} {l0 l1 l2 l3 l4 l5 l6 l7 : Option AV} {x : Int32} {L2 : List (Nat × AV)} {St : List AV} {S : SS} : ev c 314 2537 [l0, l1, l2, l3, l4, l5, l6, l7] L2 (aI x :: St) S = ev c 314 2538 [l0, l1, l2, l3, l4, l5, l6, l7] L2 (aL x.toInt64 :: St) S := ev_go i314_2537 rfl
theorem i314_2538 : insAt 314 2538 = some (.lcmp, 1, (0, 0, 0, 0), 0) := rfl
theorem s314_2538 {c : Nat → List AV → SS → Option Out} {l0 l1 l2 l3 l4 l5 l6 l7 : Option AV} {x y : Int64} {L2 : List (Nat × AV)} {St : List AV} {S : SS} : ev c 314 2538 [l0, l1, l2, l3, l4, l5, l6, l7] L2 (aL y :: aL x :: St) S = ev c 314 2539 [l0, l1, l2, l3, l4, l5, l6, l7] L2 (aI (if x < y then -1 else if x = y then 0 else 1) :: St) S := ev_go i314_2538 rfl
theorem i314_2539 : insAt 314 2539 = some (.ifCond .eq 5, 3, (0, 0, 0, 0), 0) := rfl
theorem s314_2539 {c : Nat → List AV → SS → Option Out} {l0 l1 l2 l3 l4 l5 l6 l7 : Option AV} {x : Int32} {L2 : List (Nat × AV)} {St : List AV} {S : SS} : ev c 314 2539 [l0, l1, l2, l3, l4, l5, l6, l7] L2 (aI x :: St) S = if x = 0 then ev c 314 2544 [l0, l1, l2, l3, l4, l5, l6, l7] L2 St S else ev c 314 2542 [l0, l1, l2, l3, l4, l5, l6, l7] L2 St S := ev_br i314_2539 rfl
theorem i314_2542 : insAt 314 2542 = some (.iconst 0, 1, (0, 0, 0, 0), 0) := rfl
theorem s314_2542 {c : Nat → List AV → SS → Option Out} {l0 l1 l2 l3 l4 l5 l6 l7 : Option AV} {L2 : List (Nat × AV)} {St : List AV} {S : SS} : ev c 314 2542 [l0, l1, l2, l3, l4, l5, l6, l7] L2 St S = ev c 314 2543 [l0, l1, l2, l3, l4, l5, l6, l7] L2 (aI 0 :: St) S := ev_go i314_2542 rfl
theorem i314_2543 : insAt 314 2543 = some (.ireturn, 1, (0, 0, 0, 0), 0) := rfl
theorem s314_2543 {c : Nat → List AV → SS → Option Out} {l0 l1 l2 l3 l4 l5 l6 l7 : Option AV} {x : Int32} {L2 : List (Nat × AV)} {St : List AV} {S : SS} : ev c 314 2543 [l0, l1, l2, l3, l4, l5, l6, l7] L2 [aI x] S = if x = 0 ∨ x = 1 then some (.inl (some (aI x)), S) else none := ev_rt i314_2543 rfl
theorem i314_2544 : insAt 314 2544 = some (.goto 255, 3, (0, 0, 0, 0), 0) := rfl
theorem s314_2544 {c : Nat → List AV → SS → Option Out} {l0 l1 l2 l3 l4 l5 l6 l7 : Option AV} {L2 : List (Nat × AV)} {St : List AV} {S : SS} : ev c 314 2544 [l0, l1, l2, l3, l4, l5, l6, l7] L2 St S = ev c 314 2799 [l0, l1, l2, l3, l4, l5, l6, l7] L2 St S := ev_go i314_2544 rfl
theorem i314_2547 : insAt 314 2547 = some (.aload_n 1, 1, (0, 0, 0, 0), 0) := rfl
theorem s314_2547 {c : Nat → List AV → SS → Option Out} {l0 l2 l3 l4 l5 l6 l7 : Option AV} {o : OId} {L2 : List (Nat × AV)} {St : List AV} {S : SS} : ev c 314 2547 [l0, some (aR o), l2, l3, l4, l5, l6, l7] L2 St S = ev c 314 2548 [l0, some (aR o), l2, l3, l4, l5, l6, l7] L2 (aR o :: St) S := ev_go i314_2547 rfl
theorem i314_2548 : insAt 314 2548 = some (.invokevirtual 293, 3, (33, 0, 2, 11), 0) := rfl
theorem s314_2548 {c : Nat → List AV → SS → Option Out} {l0 l1 l2 l3 l4 l5 l6 l7 : Option AV} {j t : Nat} {L2 : List (Nat × AV)} {S : SS} : ev c 314 2548 [l0, l1, l2, l3, l4, l5, l6, l7] L2 [aR (11, j, t)] S = ck (c 33 [aR (11, j, t)] S) (fun v S' => ev c 314 2551 [l0, l1, l2, l3, l4, l5, l6, l7] L2 (v.toList ++ []) S') := ev_call i314_2548 rfl
theorem i314_2551 : insAt 314 2551 = some (.aload_n 2, 1, (0, 0, 0, 0), 0) := rfl
theorem s314_2551 {c : Nat → List AV → SS → Option Out} {l0 l1 l3 l4 l5 l6 l7 : Option AV} {o : OId} {L2 : List (Nat × AV)} {St : List AV} {S : SS} : ev c 314 2551 [l0, l1, some (aR o), l3, l4, l5, l6, l7] L2 St S = ev c 314 2552 [l0, l1, some (aR o), l3, l4, l5, l6, l7] L2 (aR o :: St) S := ev_go i314_2551 rfl
theorem i314_2552 : insAt 314 2552 = some (.invokevirtual 296, 3, (302, 0, 2, 12), 0) := rfl
theorem s314_2552 {c : Nat → List AV → SS → Option Out} {l0 l1 l2 l3 l4 l5 l6 l7 : Option AV} {t0 : AV} {j t : Nat} {L2 : List (Nat × AV)} {S : SS} : ev c 314 2552 [l0, l1, l2, l3, l4, l5, l6, l7] L2 [aR (12, j, t), t0] S = ck (c 302 [aR (12, j, t)] S) (fun v S' => ev c 314 2555 [l0, l1, l2, l3, l4, l5, l6, l7] L2 (v.toList ++ [t0]) S') := ev_call i314_2552 rfl
theorem i314_2555 : insAt 314 2555 = some (.if_icmp .eq 244, 3, (0, 0, 0, 0), 0) := rfl
theorem s314_2555 {c : Nat → List AV → SS → Option Out} {l0 l1 l2 l3 l4 l5 l6 l7 : Option AV} {x y : Int32} {L2 : List (Nat × AV)} {St : List AV} {S : SS} : ev c 314 2555 [l0, l1, l2, l3, l4, l5, l6, l7] L2 (aI y :: aI x :: St) S = if x = y then ev c 314 2799 [l0, l1, l2, l3, l4, l5, l6, l7] L2 St S else ev c 314 2558 [l0, l1, l2, l3, l4, l5, l6, l7] L2 St S := ev_br i314_2555 rfl
theorem i314_2558 : insAt 314 2558 = some (.iconst 0, 1, (0, 0, 0, 0), 0) := rfl
theorem s314_2558 {c : Nat → List AV → SS → Option Out} {l0 l1 l2 l3 l4 l5 l6 l7 : Option AV} {L2 : List (Nat × AV)} {St : List AV} {S : SS} : ev c 314 2558 [l0, l1, l2, l3, l4, l5, l6, l7] L2 St S = ev c 314 2559 [l0, l1, l2, l3, l4, l5, l6, l7] L2 (aI 0 :: St) S := ev_go i314_2558 rfl
theorem i314_2559 : insAt 314 2559 = some (.ireturn, 1, (0, 0, 0, 0), 0) := rfl
theorem s314_2559 {c : Nat → List AV → SS → Option Out} {l0 l1 l2 l3 l4 l5 l6 l7 : Option AV} {x : Int32} {L2 : List (Nat × AV)} {St : List AV} {S : SS} : ev c 314 2559 [l0, l1, l2, l3, l4, l5, l6, l7] L2 [aI x] S = if x = 0 ∨ x = 1 then some (.inl (some (aI x)), S) else none := ev_rt i314_2559 rfl
theorem i314_2560 : insAt 314 2560 = some (.aload_n 1, 1, (0, 0, 0, 0), 0) := rfl
theorem s314_2560 {c : Nat → List AV → SS → Option Out} {l0 l2 l3 l4 l5 l6 l7 : Option AV} {o : OId} {L2 : List (Nat × AV)} {St : List AV} {S : SS} : ev c 314 2560 [l0, some (aR o), l2, l3, l4, l5, l6, l7] L2 St S = ev c 314 2561 [l0, some (aR o), l2, l3, l4, l5, l6, l7] L2 (aR o :: St) S := ev_go i314_2560 rfl
theorem i314_2561 : insAt 314 2561 = some (.invokevirtual 297, 3, (48, 0, 2, 11), 0) := rfl
theorem s314_2561 {c : Nat → List AV → SS → Option Out} {l0 l1 l2 l3 l4 l5 l6 l7 : Option AV} {j t : Nat} {L2 : List (Nat × AV)} {S : SS} : ev c 314 2561 [l0, l1, l2, l3, l4, l5, l6, l7] L2 [aR (11, j, t)] S = ck (c 48 [aR (11, j, t)] S) (fun v S' => ev c 314 2564 [l0, l1, l2, l3, l4, l5, l6, l7] L2 (v.toList ++ []) S') := ev_call i314_2561 rfl
theorem i314_2564 : insAt 314 2564 = some (.aload_n 2, 1, (0, 0, 0, 0), 0) := rfl
theorem s314_2564 {c : Nat → List AV → SS → Option Out} {l0 l1 l3 l4 l5 l6 l7 : Option AV} {o : OId} {L2 : List (Nat × AV)} {St : List AV} {S : SS} : ev c 314 2564 [l0, l1, some (aR o), l3, l4, l5, l6, l7] L2 St S = ev c 314 2565 [l0, l1, some (aR o), l3, l4, l5, l6, l7] L2 (aR o :: St) S := ev_go i314_2564 rfl
theorem i314_2565 : insAt 314 2565 = some (.invokevirtual 300, 3, (304, 0, 2, 12), 0) := rfl
theorem s314_2565 {c : Nat → List AV → SS → Option Out} {l0 l1 l2 l3 l4 l5 l6 l7 : Option AV} {t0 : AV} {j t : Nat} {L2 : List (Nat × AV)} {S : SS} : ev c 314 2565 [l0, l1, l2, l3, l4, l5, l6, l7] L2 [aR (12, j, t), t0] S = ck (c 304 [aR (12, j, t)] S) (fun v S' => ev c 314 2568 [l0, l1, l2, l3, l4, l5, l6, l7] L2 (v.toList ++ [t0]) S') := ev_call i314_2565 rfl
theorem i314_2568 : insAt 314 2568 = some (.if_icmp .eq 231, 3, (0, 0, 0, 0), 0) := rfl
theorem s314_2568 {c : Nat → List AV → SS → Option Out} {l0 l1 l2 l3 l4 l5 l6 l7 : Option AV} {x y : Int32} {L2 : List (Nat × AV)} {St : List AV} {S : SS} : ev c 314 2568 [l0, l1, l2, l3, l4, l5, l6, l7] L2 (aI y :: aI x :: St) S = if x = y then ev c 314 2799 [l0, l1, l2, l3, l4, l5, l6, l7] L2 St S else ev c 314 2571 [l0, l1, l2, l3, l4, l5, l6, l7] L2 St S := ev_br i314_2568 rfl
theorem i314_2571 : insAt 314 2571 = some (.iconst 0, 1, (0, 0, 0, 0), 0) := rfl
theorem s314_2571 {c : Nat → List AV → SS → Option Out} {l0 l1 l2 l3 l4 l5 l6 l7 : Option AV} {L2 : List (Nat × AV)} {St : List AV} {S : SS} : ev c 314 2571 [l0, l1, l2, l3, l4, l5, l6, l7] L2 St S = ev c 314 2572 [l0, l1, l2, l3, l4, l5, l6, l7] L2 (aI 0 :: St) S := ev_go i314_2571 rfl
theorem i314_2572 : insAt 314 2572 = some (.ireturn, 1, (0, 0, 0, 0), 0) := rfl
theorem s314_2572 {c : Nat → List AV → SS → Option Out} {l0 l1 l2 l3 l4 l5 l6 l7 : Option AV} {x : Int32} {L2 : List (Nat × AV)} {St : List AV} {S : SS} : ev c 314 2572 [l0, l1, l2, l3, l4, l5, l6, l7] L2 [aI x] S = if x = 0 ∨ x = 1 then some (.inl (some (aI x)), S) else none := ev_rt i314_2572 rfl
theorem i314_2573 : insAt 314 2573 = some (.aload_n 1, 1, (0, 0, 0, 0), 0) := rfl
theorem s314_2573 {c : Nat → List AV → SS → Option Out} {l0 l2 l3 l4 l5 l6 l7 : Option AV} {o : OId} {L2 : List (Nat × AV)} {St : List AV} {S : SS} : ev c 314 2573 [l0, some (aR o), l2, l3, l4, l5, l6, l7] L2 St S = ev c 314 2574 [l0, some (aR o), l2, l3, l4, l5, l6, l7] L2 (aR o :: St) S := ev_go i314_2573 rfl
theorem i314_2574 : insAt 314 2574 = some (.invokevirtual 301, 3, (54, 0, 2, 11), 0) := rfl
theorem s314_2574 {c : Nat → List AV → SS → Option Out} {l0 l1 l2 l3 l4 l5 l6 l7 : Option AV} {j t : Nat} {L2 : List (Nat × AV)} {S : SS} : ev c 314 2574 [l0, l1, l2, l3, l4, l5, l6, l7] L2 [aR (11, j, t)] S = ck (c 54 [aR (11, j, t)] S) (fun v S' => ev c 314 2577 [l0, l1, l2, l3, l4, l5, l6, l7] L2 (v.toList ++ []) S') := ev_call i314_2574 rfl
theorem i314_2577 : insAt 314 2577 = some (.aload_n 2, 1, (0, 0, 0, 0), 0) := rfl
theorem s314_2577 {c : Nat → List AV → SS → Option Out} {l0 l1 l3 l4 l5 l6 l7 : Option AV} {o : OId} {L2 : List (Nat × AV)} {St : List AV} {S : SS} : ev c 314 2577 [l0, l1, some (aR o), l3, l4, l5, l6, l7] L2 St S = ev c 314 2578 [l0, l1, some (aR o), l3, l4, l5, l6, l7] L2 (aR o :: St) S := ev_go i314_2577 rfl
theorem i314_2578 : insAt 314 2578 = some (.invokevirtual 304, 3, (305, 0, 2, 12), 0) := rfl
theorem s314_2578 {c : Nat → List AV → SS → Option Out} {l0 l1 l2 l3 l4 l5 l6 l7 : Option AV} {t0 : AV} {j t : Nat} {L2 : List (Nat × AV)} {S : SS} : ev c 314 2578 [l0, l1, l2, l3, l4, l5, l6, l7] L2 [aR (12, j, t), t0] S = ck (c 305 [aR (12, j, t)] S) (fun v S' => ev c 314 2581 [l0, l1, l2, l3, l4, l5, l6, l7] L2 (v.toList ++ [t0]) S') := ev_call i314_2578 rfl
theorem i314_2581 : insAt 314 2581 = some (.if_icmp .eq 218, 3, (0, 0, 0, 0), 0) := rfl
theorem s314_2581 {c : Nat → List AV → SS → Option Out} {l0 l1 l2 l3 l4 l5 l6 l7 : Option AV} {x y : Int32} {L2 : List (Nat × AV)} {St : List AV} {S : SS} : ev c 314 2581 [l0, l1, l2, l3, l4, l5, l6, l7] L2 (aI y :: aI x :: St) S = if x = y then ev c 314 2799 [l0, l1, l2, l3, l4, l5, l6, l7] L2 St S else ev c 314 2584 [l0, l1, l2, l3, l4, l5, l6, l7] L2 St S := ev_br i314_2581 rfl
theorem i314_2584 : insAt 314 2584 = some (.iconst 0, 1, (0, 0, 0, 0), 0) := rfl
theorem s314_2584 {c : Nat → List AV → SS → Option Out} {l0 l1 l2 l3 l4 l5 l6 l7 : Option AV} {L2 : List (Nat × AV)} {St : List AV} {S : SS} : ev c 314 2584 [l0, l1, l2, l3, l4, l5, l6, l7] L2 St S = ev c 314 2585 [l0, l1, l2, l3, l4, l5, l6, l7] L2 (aI 0 :: St) S := ev_go i314_2584 rfl
theorem i314_2585 : insAt 314 2585 = some (.ireturn, 1, (0, 0, 0, 0), 0) := rfl
theorem s314_2585 {c : Nat → List AV → SS → Option Out} {l0 l1 l2 l3 l4 l5 l6 l7 : Option AV} {x : Int32} {L2 : List (Nat × AV)} {St : List AV} {S : SS} : ev c 314 2585 [l0, l1, l2, l3, l4, l5, l6, l7] L2 [aI x] S = if x = 0 ∨ x = 1 then some (.inl (some (aI x)), S) else none := ev_rt i314_2585 rfl
theorem i314_2586 : insAt 314 2586 = some (.aload_n 1, 1, (0, 0, 0, 0), 0) := rfl
theorem s314_2586 {c : Nat → List AV → SS → Option Out} {l0 l2 l3 l4 l5 l6 l7 : Option AV} {o : OId} {L2 : List (Nat × AV)} {St : List AV} {S : SS} : ev c 314 2586 [l0, some (aR o), l2, l3, l4, l5, l6, l7] L2 St S = ev c 314 2587 [l0, some (aR o), l2, l3, l4, l5, l6, l7] L2 (aR o :: St) S := ev_go i314_2586 rfl
theorem i314_2587 : insAt 314 2587 = some (.aload_n 0, 1, (0, 0, 0, 0), 0) := rfl
theorem s314_2587 {c : Nat → List AV → SS → Option Out} {l1 l2 l3 l4 l5 l6 l7 : Option AV} {o : OId} {L2 : List (Nat × AV)} {St : List AV} {S : SS} : ev c 314 2587 [some (aR o), l1, l2, l3, l4, l5, l6, l7] L2 St S = ev c 314 2588 [some (aR o), l1, l2, l3, l4, l5, l6, l7] L2 (aR o :: St) S := ev_go i314_2587 rfl
theorem i314_2588 : insAt 314 2588 = some (.iload 5, 2, (0, 0, 0, 0), 0) := rfl
theorem s314_2588 {c : Nat → List AV → SS → Option Out} {l0 l1 l2 l3 l4 l6 l7 : Option AV} {x : Int32} {L2 : List (Nat × AV)} {St : List AV} {S : SS} : ev c 314 2588 [l0, l1, l2, l3, l4, some (aI x), l6, l7] L2 St S = ev c 314 2590 [l0, l1, l2, l3, l4, some (aI x), l6, l7] L2 (aI x :: St) S := ev_go i314_2588 rfl
theorem i314_2590 : insAt 314 2590 = some (.iconst 1, 1, (0, 0, 0, 0), 0) := rfl
theorem s314_2590 {c : Nat → List AV → SS → Option Out} {l0 l1 l2 l3 l4 l5 l6 l7 : Option AV} {L2 : List (Nat × AV)} {St : List AV} {S : SS} : ev c 314 2590 [l0, l1, l2, l3, l4, l5, l6, l7] L2 St S = ev c 314 2591 [l0, l1, l2, l3, l4, l5, l6, l7] L2 (aI 1 :: St) S := ev_go i314_2590 rfl
theorem i314_2591 : insAt 314 2591 = some (.iadd, 1, (0, 0, 0, 0), 0) := rfl
theorem s314_2591 {c : Nat → List AV → SS → Option Out} {l0 l1 l2 l3 l4 l5 l6 l7 : Option AV} {x y : Int32} {L2 : List (Nat × AV)} {St : List AV} {S : SS} : ev c 314 2591 [l0, l1, l2, l3, l4, l5, l6, l7] L2 (aI y :: aI x :: St) S = ev c 314 2592 [l0, l1, l2, l3, l4, l5, l6, l7] L2 (aI (x + y) :: St) S := ev_go i314_2591 rfl
theorem i314_2592 : insAt 314 2592 = some (.iaload, 1, (0, 0, 0, 0), 0) := rfl
theorem s314_2592 {c : Nat → List AV → SS → Option Out} {l0 l1 l2 l3 l4 l5 l6 l7 : Option AV} {i : Int32} {o : OId} {L2 : List (Nat × AV)} {St : List AV} {S : SS} : ev c 314 2592 [l0, l1, l2, l3, l4, l5, l6, l7] L2 (aI i :: aR o :: St) S = kI o i (ev c 314 2593 [l0, l1, l2, l3, l4, l5, l6, l7] L2 (aI (agI S o i.toNatClampNeg) :: St) S) := ev_iaload i314_2592
theorem i314_2593 : insAt 314 2593 = some (.aload_n 3, 1, (0, 0, 0, 0), 0) := rfl
theorem s314_2593 {c : Nat → List AV → SS → Option Out} {l0 l1 l2 l4 l5 l6 l7 : Option AV} {o : OId} {L2 : List (Nat × AV)} {St : List AV} {S : SS} : ev c 314 2593 [l0, l1, l2, some (aR o), l4, l5, l6, l7] L2 St S = ev c 314 2594 [l0, l1, l2, some (aR o), l4, l5, l6, l7] L2 (aR o :: St) S := ev_go i314_2593 rfl
theorem i314_2594 : insAt 314 2594 = some (.invokestatic 305, 3, (173, 3, 0, 0), 0) := rfl
theorem s314_2594 {c : Nat → List AV → SS → Option Out} {l0 l1 l2 l3 l4 l5 l6 l7 : Option AV} {a0 : OId} {a1 : Int32} {a2 : OId} {L2 : List (Nat × AV)} {S : SS} : ev c 314 2594 [l0, l1, l2, l3, l4, l5, l6, l7] L2 [aR a2, aI a1, aR a0] S = ck (c 173 [aR a0, aI a1, aR a2] S) (fun v S' => ev c 314 2597 [l0, l1, l2, l3, l4, l5, l6, l7] L2 (v.toList ++ []) S') := ev_call i314_2594 rfl
theorem i314_2597 : insAt 314 2597 = some (.istore 6, 2, (0, 0, 0, 0), 0) := rfl
theorem s314_2597 {c : Nat → List AV → SS → Option Out} {l0 l1 l2 l3 l4 l5 l6 l7 : Option AV} {x : Int32} {L2 : List (Nat × AV)} {St : List AV} {S : SS} : ev c 314 2597 [l0, l1, l2, l3, l4, l5, l6, l7] L2 (aI x :: St) S = ev c 314 2599 [l0, l1, l2, l3, l4, l5, some (aI x), l7] (kil L2 6) St S := ev_go i314_2597 rfl
theorem i314_2599 : insAt 314 2599 = some (.aload_n 2, 1, (0, 0, 0, 0), 0) := rfl
theorem s314_2599 {c : Nat → List AV → SS → Option Out} {l0 l1 l3 l4 l5 l6 l7 : Option AV} {o : OId} {L2 : List (Nat × AV)} {St : List AV} {S : SS} : ev c 314 2599 [l0, l1, some (aR o), l3, l4, l5, l6, l7] L2 St S = ev c 314 2600 [l0, l1, some (aR o), l3, l4, l5, l6, l7] L2 (aR o :: St) S := ev_go i314_2599 rfl
theorem i314_2600 : insAt 314 2600 = some (.aload_n 0, 1, (0, 0, 0, 0), 0) := rfl
theorem s314_2600 {c : Nat → List AV → SS → Option Out} {l1 l2 l3 l4 l5 l6 l7 : Option AV} {o : OId} {L2 : List (Nat × AV)} {St : List AV} {S : SS} : ev c 314 2600 [some (aR o), l1, l2, l3, l4, l5, l6, l7] L2 St S = ev c 314 2601 [some (aR o), l1, l2, l3, l4, l5, l6, l7] L2 (aR o :: St) S := ev_go i314_2600 rfl
theorem i314_2601 : insAt 314 2601 = some (.iload 5, 2, (0, 0, 0, 0), 0) := rfl
theorem s314_2601 {c : Nat → List AV → SS → Option Out} {l0 l1 l2 l3 l4 l6 l7 : Option AV} {x : Int32} {L2 : List (Nat × AV)} {St : List AV} {S : SS} : ev c 314 2601 [l0, l1, l2, l3, l4, some (aI x), l6, l7] L2 St S = ev c 314 2603 [l0, l1, l2, l3, l4, some (aI x), l6, l7] L2 (aI x :: St) S := ev_go i314_2601 rfl
theorem i314_2603 : insAt 314 2603 = some (.iconst 1, 1, (0, 0, 0, 0), 0) := rfl
theorem s314_2603 {c : Nat → List AV → SS → Option Out} {l0 l1 l2 l3 l4 l5 l6 l7 : Option AV} {L2 : List (Nat × AV)} {St : List AV} {S : SS} : ev c 314 2603 [l0, l1, l2, l3, l4, l5, l6, l7] L2 St S = ev c 314 2604 [l0, l1, l2, l3, l4, l5, l6, l7] L2 (aI 1 :: St) S := ev_go i314_2603 rfl
theorem i314_2604 : insAt 314 2604 = some (.iadd, 1, (0, 0, 0, 0), 0) := rfl
theorem s314_2604 {c : Nat → List AV → SS → Option Out} {l0 l1 l2 l3 l4 l5 l6 l7 : Option AV} {x y : Int32} {L2 : List (Nat × AV)} {St : List AV} {S : SS} : ev c 314 2604 [l0, l1, l2, l3, l4, l5, l6, l7] L2 (aI y :: aI x :: St) S = ev c 314 2605 [l0, l1, l2, l3, l4, l5, l6, l7] L2 (aI (x + y) :: St) S := ev_go i314_2604 rfl
theorem i314_2605 : insAt 314 2605 = some (.iaload, 1, (0, 0, 0, 0), 0) := rfl
theorem s314_2605 {c : Nat → List AV → SS → Option Out} {l0 l1 l2 l3 l4 l5 l6 l7 : Option AV} {i : Int32} {o : OId} {L2 : List (Nat × AV)} {St : List AV} {S : SS} : ev c 314 2605 [l0, l1, l2, l3, l4, l5, l6, l7] L2 (aI i :: aR o :: St) S = kI o i (ev c 314 2606 [l0, l1, l2, l3, l4, l5, l6, l7] L2 (aI (agI S o i.toNatClampNeg) :: St) S) := ev_iaload i314_2605
theorem i314_2606 : insAt 314 2606 = some (.invokevirtual 307, 3, (306, 1, 2, 12), 0) := rfl
theorem s314_2606 {c : Nat → List AV → SS → Option Out} {l0 l1 l2 l3 l4 l5 l6 l7 : Option AV} {a0 : Int32} {j t : Nat} {L2 : List (Nat × AV)} {S : SS} : ev c 314 2606 [l0, l1, l2, l3, l4, l5, l6, l7] L2 [aI a0, aR (12, j, t)] S = ck (c 306 [aR (12, j, t), aI a0] S) (fun v S' => ev c 314 2609 [l0, l1, l2, l3, l4, l5, l6, l7] L2 (v.toList ++ []) S') := ev_call i314_2606 rfl
theorem i314_2609 : insAt 314 2609 = some (.istore 7, 2, (0, 0, 0, 0), 0) := rfl
theorem s314_2609 {c : Nat → List AV → SS → Option Out} {l0 l1 l2 l3 l4 l5 l6 l7 : Option AV} {x : Int32} {L2 : List (Nat × AV)} {St : List AV} {S : SS} : ev c 314 2609 [l0, l1, l2, l3, l4, l5, l6, l7] L2 (aI x :: St) S = ev c 314 2611 [l0, l1, l2, l3, l4, l5, l6, some (aI x)] (kil L2 7) St S := ev_go i314_2609 rfl
theorem i314_2611 : insAt 314 2611 = some (.aload_n 2, 1, (0, 0, 0, 0), 0) := rfl
theorem s314_2611 {c : Nat → List AV → SS → Option Out} {l0 l1 l3 l4 l5 l6 l7 : Option AV} {o : OId} {L2 : List (Nat × AV)} {St : List AV} {S : SS} : ev c 314 2611 [l0, l1, some (aR o), l3, l4, l5, l6, l7] L2 St S = ev c 314 2612 [l0, l1, some (aR o), l3, l4, l5, l6, l7] L2 (aR o :: St) S := ev_go i314_2611 rfl
theorem i314_2612 : insAt 314 2612 = some (.invokevirtual 149, 3, (218, 0, 2, 12), 0) := rfl
theorem s314_2612 {c : Nat → List AV → SS → Option Out} {l0 l1 l2 l3 l4 l5 l6 l7 : Option AV} {j t : Nat} {L2 : List (Nat × AV)} {S : SS} : ev c 314 2612 [l0, l1, l2, l3, l4, l5, l6, l7] L2 [aR (12, j, t)] S = ck (c 218 [aR (12, j, t)] S) (fun v S' => ev c 314 2615 [l0, l1, l2, l3, l4, l5, l6, l7] L2 (v.toList ++ []) S') := ev_call i314_2612 rfl
theorem i314_2615 : insAt 314 2615 = some (.iload 6, 2, (0, 0, 0, 0), 0) := rfl
theorem s314_2615 {c : Nat → List AV → SS → Option Out} {l0 l1 l2 l3 l4 l5 l7 : Option AV} {x : Int32} {L2 : List (Nat × AV)} {St : List AV} {S : SS} : ev c 314 2615 [l0, l1, l2, l3, l4, l5, some (aI x), l7] L2 St S = ev c 314 2617 [l0, l1, l2, l3, l4, l5, some (aI x), l7] L2 (aI x :: St) S := ev_go i314_2615 rfl
theorem i314_2617 : insAt 314 2617 = some (.if_icmp .eq 5, 3, (0, 0, 0, 0), 0) := rfl
theorem s314_2617 {c : Nat → List AV → SS → Option Out} {l0 l1 l2 l3 l4 l5 l6 l7 : Option AV} {x y : Int32} {L2 : List (Nat × AV)} {St : List AV} {S : SS} : ev c 314 2617 [l0, l1, l2, l3, l4, l5, l6, l7] L2 (aI y :: aI x :: St) S = if x = y then ev c 314 2622 [l0, l1, l2, l3, l4, l5, l6, l7] L2 St S else ev c 314 2620 [l0, l1, l2, l3, l4, l5, l6, l7] L2 St S := ev_br i314_2617 rfl
theorem i314_2620 : insAt 314 2620 = some (.iconst 0, 1, (0, 0, 0, 0), 0) := rfl
theorem s314_2620 {c : Nat → List AV → SS → Option Out} {l0 l1 l2 l3 l4 l5 l6 l7 : Option AV} {L2 : List (Nat × AV)} {St : List AV} {S : SS} : ev c 314 2620 [l0, l1, l2, l3, l4, l5, l6, l7] L2 St S = ev c 314 2621 [l0, l1, l2, l3, l4, l5, l6, l7] L2 (aI 0 :: St) S := ev_go i314_2620 rfl
theorem i314_2621 : insAt 314 2621 = some (.ireturn, 1, (0, 0, 0, 0), 0) := rfl
theorem s314_2621 {c : Nat → List AV → SS → Option Out} {l0 l1 l2 l3 l4 l5 l6 l7 : Option AV} {x : Int32} {L2 : List (Nat × AV)} {St : List AV} {S : SS} : ev c 314 2621 [l0, l1, l2, l3, l4, l5, l6, l7] L2 [aI x] S = if x = 0 ∨ x = 1 then some (.inl (some (aI x)), S) else none := ev_rt i314_2621 rfl
theorem i314_2622 : insAt 314 2622 = some (.iload 6, 2, (0, 0, 0, 0), 0) := rfl
theorem s314_2622 {c : Nat → List AV → SS → Option Out} {l0 l1 l2 l3 l4 l5 l7 : Option AV} {x : Int32} {L2 : List (Nat × AV)} {St : List AV} {S : SS} : ev c 314 2622 [l0, l1, l2, l3, l4, l5, some (aI x), l7] L2 St S = ev c 314 2624 [l0, l1, l2, l3, l4, l5, some (aI x), l7] L2 (aI x :: St) S := ev_go i314_2622 rfl
theorem i314_2624 : insAt 314 2624 = some (.ifCond .ne 15, 3, (0, 0, 0, 0), 0) := rfl
theorem s314_2624 {c : Nat → List AV → SS → Option Out} {l0 l1 l2 l3 l4 l5 l6 l7 : Option AV} {x : Int32} {L2 : List (Nat × AV)} {St : List AV} {S : SS} : ev c 314 2624 [l0, l1, l2, l3, l4, l5, l6, l7] L2 (aI x :: St) S = if x = 0 then ev c 314 2627 [l0, l1, l2, l3, l4, l5, l6, l7] L2 St S else ev c 314 2639 [l0, l1, l2, l3, l4, l5, l6, l7] L2 St S := (ev_br i314_2624 rfl).trans (ite_not _ _ _)
theorem i314_2627 : insAt 314 2627 = some (.aload_n 3, 1, (0, 0, 0, 0), 0) := rfl
theorem s314_2627 {c : Nat → List AV → SS → Option Out} {l0 l1 l2 l4 l5 l6 l7 : Option AV} {o : OId} {L2 : List (Nat × AV)} {St : List AV} {S : SS} : ev c 314 2627 [l0, l1, l2, some (aR o), l4, l5, l6, l7] L2 St S = ev c 314 2628 [l0, l1, l2, some (aR o), l4, l5, l6, l7] L2 (aR o :: St) S := ev_go i314_2627 rfl
theorem i314_2628 : insAt 314 2628 = some (.iconst 0, 1, (0, 0, 0, 0), 0) := rfl
theorem s314_2628 {c : Nat → List AV → SS → Option Out} {l0 l1 l2 l3 l4 l5 l6 l7 : Option AV} {L2 : List (Nat × AV)} {St : List AV} {S : SS} : ev c 314 2628 [l0, l1, l2, l3, l4, l5, l6, l7] L2 St S = ev c 314 2629 [l0, l1, l2, l3, l4, l5, l6, l7] L2 (aI 0 :: St) S := ev_go i314_2628 rfl
theorem i314_2629 : insAt 314 2629 = some (.laload, 1, (0, 0, 0, 0), 0) := rfl
theorem s314_2629 {c : Nat → List AV → SS → Option Out} {l0 l1 l2 l3 l4 l5 l6 l7 : Option AV} {i : Int32} {o : OId} {L2 : List (Nat × AV)} {St : List AV} {S : SS} : ev c 314 2629 [l0, l1, l2, l3, l4, l5, l6, l7] L2 (aI i :: aR o :: St) S = kJ o i (ev c 314 2630 [l0, l1, l2, l3, l4, l5, l6, l7] L2 (aL (toL (S.2.1 o i.toNatClampNeg)) :: St) S) := ev_laload i314_2629
theorem i314_2630 : insAt 314 2630 = some (.iload 7, 2, (0, 0, 0, 0), 0) := rfl
theorem s314_2630 {c : Nat → List AV → SS → Option Out} {l0 l1 l2 l3 l4 l5 l6 : Option AV} {x : Int32} {L2 : List (Nat × AV)} {St : List AV} {S : SS} : ev c 314 2630 [l0, l1, l2, l3, l4, l5, l6, some (aI x)] L2 St S = ev c 314 2632 [l0, l1, l2, l3, l4, l5, l6, some (aI x)] L2 (aI x :: St) S := ev_go i314_2630 rfl
theorem i314_2632 : insAt 314 2632 = some (.i2l, 1, (0, 0, 0, 0), 0) := rfl
theorem s314_2632 {c : Nat → List AV → SS → Option Out} {l0 l1 l2 l3 l4 l5 l6 l7 : Option AV} {x : Int32} {L2 : List (Nat × AV)} {St : List AV} {S : SS} : ev c 314 2632 [l0, l1, l2, l3, l4, l5, l6, l7] L2 (aI x :: St) S = ev c 314 2633 [l0, l1, l2, l3, l4, l5, l6, l7] L2 (aL x.toInt64 :: St) S := ev_go i314_2632 rfl
theorem i314_2633 : insAt 314 2633 = some (.lcmp, 1, (0, 0, 0, 0), 0) := rfl
theorem s314_2633 {c : Nat → List AV → SS → Option Out} {l0 l1 l2 l3 l4 l5 l6 l7 : Option AV} {x y : Int64} {L2 : List (Nat × AV)} {St : List AV} {S : SS} : ev c 314 2633 [l0, l1, l2, l3, l4, l5, l6, l7] L2 (aL y :: aL x :: St) S = ev c 314 2634 [l0, l1, l2, l3, l4, l5, l6, l7] L2 (aI (if x < y then -1 else if x = y then 0 else 1) :: St) S := ev_go i314_2633 rfl
theorem i314_2634 : insAt 314 2634 = some (.ifCond .eq 5, 3, (0, 0, 0, 0), 0) := rfl
theorem s314_2634 {c : Nat → List AV → SS → Option Out} {l0 l1 l2 l3 l4 l5 l6 l7 : Option AV} {x : Int32} {L2 : List (Nat × AV)} {St : List AV} {S : SS} : ev c 314 2634 [l0, l1, l2, l3, l4, l5, l6, l7] L2 (aI x :: St) S = if x = 0 then ev c 314 2639 [l0, l1, l2, l3, l4, l5, l6, l7] L2 St S else ev c 314 2637 [l0, l1, l2, l3, l4, l5, l6, l7] L2 St S := ev_br i314_2634 rfl
theorem i314_2637 : insAt 314 2637 = some (.iconst 0, 1, (0, 0, 0, 0), 0) := rfl
theorem s314_2637 {c : Nat → List AV → SS → Option Out} {l0 l1 l2 l3 l4 l5 l6 l7 : Option AV} {L2 : List (Nat × AV)} {St : List AV} {S : SS} : ev c 314 2637 [l0, l1, l2, l3, l4, l5, l6, l7] L2 St S = ev c 314 2638 [l0, l1, l2, l3, l4, l5, l6, l7] L2 (aI 0 :: St) S := ev_go i314_2637 rfl
theorem i314_2638 : insAt 314 2638 = some (.ireturn, 1, (0, 0, 0, 0), 0) := rfl
theorem s314_2638 {c : Nat → List AV → SS → Option Out} {l0 l1 l2 l3 l4 l5 l6 l7 : Option AV} {x : Int32} {L2 : List (Nat × AV)} {St : List AV} {S : SS} : ev c 314 2638 [l0, l1, l2, l3, l4, l5, l6, l7] L2 [aI x] S = if x = 0 ∨ x = 1 then some (.inl (some (aI x)), S) else none := ev_rt i314_2638 rfl
theorem i314_2639 : insAt 314 2639 = some (.goto 160, 3, (0, 0, 0, 0), 0) := rfl
theorem s314_2639 {c : Nat → List AV → SS → Option Out} {l0 l1 l2 l3 l4 l5 l6 l7 : Option AV} {L2 : List (Nat × AV)} {St : List AV} {S : SS} : ev c 314 2639 [l0, l1, l2, l3, l4, l5, l6, l7] L2 St S = ev c 314 2799 [l0, l1, l2, l3, l4, l5, l6, l7] L2 St S := ev_go i314_2639 rfl
theorem i314_2642 : insAt 314 2642 = some (.aload_n 1, 1, (0, 0, 0, 0), 0) := rfl
theorem s314_2642 {c : Nat → List AV → SS → Option Out} {l0 l2 l3 l4 l5 l6 l7 : Option AV} {o : OId} {L2 : List (Nat × AV)} {St : List AV} {S : SS} : ev c 314 2642 [l0, some (aR o), l2, l3, l4, l5, l6, l7] L2 St S = ev c 314 2643 [l0, some (aR o), l2, l3, l4, l5, l6, l7] L2 (aR o :: St) S := ev_go i314_2642 rfl
theorem i314_2643 : insAt 314 2643 = some (.aload_n 0, 1, (0, 0, 0, 0), 0) := rfl
theorem s314_2643 {c : Nat → List AV → SS → Option Out} {l1 l2 l3 l4 l5 l6 l7 : Option AV} {o : OId} {L2 : List (Nat × AV)} {St : List AV} {S : SS} : ev c 314 2643 [some (aR o), l1, l2, l3, l4, l5, l6, l7] L2 St S = ev c 314 2644 [some (aR o), l1, l2, l3, l4, l5, l6, l7] L2 (aR o :: St) S := ev_go i314_2643 rfl
theorem i314_2644 : insAt 314 2644 = some (.iload 5, 2, (0, 0, 0, 0), 0) := rfl
theorem s314_2644 {c : Nat → List AV → SS → Option Out} {l0 l1 l2 l3 l4 l6 l7 : Option AV} {x : Int32} {L2 : List (Nat × AV)} {St : List AV} {S : SS} : ev c 314 2644 [l0, l1, l2, l3, l4, some (aI x), l6, l7] L2 St S = ev c 314 2646 [l0, l1, l2, l3, l4, some (aI x), l6, l7] L2 (aI x :: St) S := ev_go i314_2644 rfl
theorem i314_2646 : insAt 314 2646 = some (.iconst 1, 1, (0, 0, 0, 0), 0) := rfl
theorem s314_2646 {c : Nat → List AV → SS → Option Out} {l0 l1 l2 l3 l4 l5 l6 l7 : Option AV} {L2 : List (Nat × AV)} {St : List AV} {S : SS} : ev c 314 2646 [l0, l1, l2, l3, l4, l5, l6, l7] L2 St S = ev c 314 2647 [l0, l1, l2, l3, l4, l5, l6, l7] L2 (aI 1 :: St) S := ev_go i314_2646 rfl
theorem i314_2647 : insAt 314 2647 = some (.iadd, 1, (0, 0, 0, 0), 0) := rfl
theorem s314_2647 {c : Nat → List AV → SS → Option Out} {l0 l1 l2 l3 l4 l5 l6 l7 : Option AV} {x y : Int32} {L2 : List (Nat × AV)} {St : List AV} {S : SS} : ev c 314 2647 [l0, l1, l2, l3, l4, l5, l6, l7] L2 (aI y :: aI x :: St) S = ev c 314 2648 [l0, l1, l2, l3, l4, l5, l6, l7] L2 (aI (x + y) :: St) S := ev_go i314_2647 rfl
theorem i314_2648 : insAt 314 2648 = some (.iaload, 1, (0, 0, 0, 0), 0) := rfl
theorem s314_2648 {c : Nat → List AV → SS → Option Out} {l0 l1 l2 l3 l4 l5 l6 l7 : Option AV} {i : Int32} {o : OId} {L2 : List (Nat × AV)} {St : List AV} {S : SS} : ev c 314 2648 [l0, l1, l2, l3, l4, l5, l6, l7] L2 (aI i :: aR o :: St) S = kI o i (ev c 314 2649 [l0, l1, l2, l3, l4, l5, l6, l7] L2 (aI (agI S o i.toNatClampNeg) :: St) S) := ev_iaload i314_2648
theorem i314_2649 : insAt 314 2649 = some (.aload_n 3, 1, (0, 0, 0, 0), 0) := rfl
theorem s314_2649 {c : Nat → List AV → SS → Option Out} {l0 l1 l2 l4 l5 l6 l7 : Option AV} {o : OId} {L2 : List (Nat × AV)} {St : List AV} {S : SS} : ev c 314 2649 [l0, l1, l2, some (aR o), l4, l5, l6, l7] L2 St S = ev c 314 2650 [l0, l1, l2, some (aR o), l4, l5, l6, l7] L2 (aR o :: St) S := ev_go i314_2649 rfl
theorem i314_2650 : insAt 314 2650 = some (.invokestatic 308, 3, (207, 3, 0, 0), 0) := rfl
theorem s314_2650 {c : Nat → List AV → SS → Option Out} {l0 l1 l2 l3 l4 l5 l6 l7 : Option AV} {a0 : OId} {a1 : Int32} {a2 : OId} {L2 : List (Nat × AV)} {S : SS} : ev c 314 2650 [l0, l1, l2, l3, l4, l5, l6, l7] L2 [aR a2, aI a1, aR a0] S = ck (c 207 [aR a0, aI a1, aR a2] S) (fun v S' => ev c 314 2653 [l0, l1, l2, l3, l4, l5, l6, l7] L2 (v.toList ++ []) S') := ev_call i314_2650 rfl
theorem i314_2653 : insAt 314 2653 = some (.istore 6, 2, (0, 0, 0, 0), 0) := rfl
theorem s314_2653 {c : Nat → List AV → SS → Option Out} {l0 l1 l2 l3 l4 l5 l6 l7 : Option AV} {x : Int32} {L2 : List (Nat × AV)} {St : List AV} {S : SS} : ev c 314 2653 [l0, l1, l2, l3, l4, l5, l6, l7] L2 (aI x :: St) S = ev c 314 2655 [l0, l1, l2, l3, l4, l5, some (aI x), l7] (kil L2 6) St S := ev_go i314_2653 rfl
theorem i314_2655 : insAt 314 2655 = some (.aload_n 2, 1, (0, 0, 0, 0), 0) := rfl
theorem s314_2655 {c : Nat → List AV → SS → Option Out} {l0 l1 l3 l4 l5 l6 l7 : Option AV} {o : OId} {L2 : List (Nat × AV)} {St : List AV} {S : SS} : ev c 314 2655 [l0, l1, some (aR o), l3, l4, l5, l6, l7] L2 St S = ev c 314 2656 [l0, l1, some (aR o), l3, l4, l5, l6, l7] L2 (aR o :: St) S := ev_go i314_2655 rfl
theorem i314_2656 : insAt 314 2656 = some (.aload_n 0, 1, (0, 0, 0, 0), 0) := rfl
theorem s314_2656 {c : Nat → List AV → SS → Option Out} {l1 l2 l3 l4 l5 l6 l7 : Option AV} {o : OId} {L2 : List (Nat × AV)} {St : List AV} {S : SS} : ev c 314 2656 [some (aR o), l1, l2, l3, l4, l5, l6, l7] L2 St S = ev c 314 2657 [some (aR o), l1, l2, l3, l4, l5, l6, l7] L2 (aR o :: St) S := ev_go i314_2656 rfl
theorem i314_2657 : insAt 314 2657 = some (.iload 5, 2, (0, 0, 0, 0), 0) := rfl
theorem s314_2657 {c : Nat → List AV → SS → Option Out} {l0 l1 l2 l3 l4 l6 l7 : Option AV} {x : Int32} {L2 : List (Nat × AV)} {St : List AV} {S : SS} : ev c 314 2657 [l0, l1, l2, l3, l4, some (aI x), l6, l7] L2 St S = ev c 314 2659 [l0, l1, l2, l3, l4, some (aI x), l6, l7] L2 (aI x :: St) S := ev_go i314_2657 rfl
theorem i314_2659 : insAt 314 2659 = some (.iconst 1, 1, (0, 0, 0, 0), 0) := rfl
theorem s314_2659 {c : Nat → List AV → SS → Option Out} {l0 l1 l2 l3 l4 l5 l6 l7 : Option AV} {L2 : List (Nat × AV)} {St : List AV} {S : SS} : ev c 314 2659 [l0, l1, l2, l3, l4, l5, l6, l7] L2 St S = ev c 314 2660 [l0, l1, l2, l3, l4, l5, l6, l7] L2 (aI 1 :: St) S := ev_go i314_2659 rfl
theorem i314_2660 : insAt 314 2660 = some (.iadd, 1, (0, 0, 0, 0), 0) := rfl
theorem s314_2660 {c : Nat → List AV → SS → Option Out} {l0 l1 l2 l3 l4 l5 l6 l7 : Option AV} {x y : Int32} {L2 : List (Nat × AV)} {St : List AV} {S : SS} : ev c 314 2660 [l0, l1, l2, l3, l4, l5, l6, l7] L2 (aI y :: aI x :: St) S = ev c 314 2661 [l0, l1, l2, l3, l4, l5, l6, l7] L2 (aI (x + y) :: St) S := ev_go i314_2660 rfl
theorem i314_2661 : insAt 314 2661 = some (.iaload, 1, (0, 0, 0, 0), 0) := rfl
theorem s314_2661 {c : Nat → List AV → SS → Option Out} {l0 l1 l2 l3 l4 l5 l6 l7 : Option AV} {i : Int32} {o : OId} {L2 : List (Nat × AV)} {St : List AV} {S : SS} : ev c 314 2661 [l0, l1, l2, l3, l4, l5, l6, l7] L2 (aI i :: aR o :: St) S = kI o i (ev c 314 2662 [l0, l1, l2, l3, l4, l5, l6, l7] L2 (aI (agI S o i.toNatClampNeg) :: St) S) := ev_iaload i314_2661
theorem i314_2662 : insAt 314 2662 = some (.invokevirtual 310, 3, (307, 1, 2, 12), 0) := rfl
theorem s314_2662 {c : Nat → List AV → SS → Option Out} {l0 l1 l2 l3 l4 l5 l6 l7 : Option AV} {a0 : Int32} {j t : Nat} {L2 : List (Nat × AV)} {S : SS} : ev c 314 2662 [l0, l1, l2, l3, l4, l5, l6, l7] L2 [aI a0, aR (12, j, t)] S = ck (c 307 [aR (12, j, t), aI a0] S) (fun v S' => ev c 314 2665 [l0, l1, l2, l3, l4, l5, l6, l7] L2 (v.toList ++ []) S') := ev_call i314_2662 rfl
theorem i314_2665 : insAt 314 2665 = some (.istore 7, 2, (0, 0, 0, 0), 0) := rfl
theorem s314_2665 {c : Nat → List AV → SS → Option Out} {l0 l1 l2 l3 l4 l5 l6 l7 : Option AV} {x : Int32} {L2 : List (Nat × AV)} {St : List AV} {S : SS} : ev c 314 2665 [l0, l1, l2, l3, l4, l5, l6, l7] L2 (aI x :: St) S = ev c 314 2667 [l0, l1, l2, l3, l4, l5, l6, some (aI x)] (kil L2 7) St S := ev_go i314_2665 rfl
theorem i314_2667 : insAt 314 2667 = some (.aload_n 2, 1, (0, 0, 0, 0), 0) := rfl
theorem s314_2667 {c : Nat → List AV → SS → Option Out} {l0 l1 l3 l4 l5 l6 l7 : Option AV} {o : OId} {L2 : List (Nat × AV)} {St : List AV} {S : SS} : ev c 314 2667 [l0, l1, some (aR o), l3, l4, l5, l6, l7] L2 St S = ev c 314 2668 [l0, l1, some (aR o), l3, l4, l5, l6, l7] L2 (aR o :: St) S := ev_go i314_2667 rfl
theorem i314_2668 : insAt 314 2668 = some (.invokevirtual 149, 3, (218, 0, 2, 12), 0) := rfl
theorem s314_2668 {c : Nat → List AV → SS → Option Out} {l0 l1 l2 l3 l4 l5 l6 l7 : Option AV} {j t : Nat} {L2 : List (Nat × AV)} {S : SS} : ev c 314 2668 [l0, l1, l2, l3, l4, l5, l6, l7] L2 [aR (12, j, t)] S = ck (c 218 [aR (12, j, t)] S) (fun v S' => ev c 314 2671 [l0, l1, l2, l3, l4, l5, l6, l7] L2 (v.toList ++ []) S') := ev_call i314_2668 rfl
theorem i314_2671 : insAt 314 2671 = some (.iload 6, 2, (0, 0, 0, 0), 0) := rfl
theorem s314_2671 {c : Nat → List AV → SS → Option Out} {l0 l1 l2 l3 l4 l5 l7 : Option AV} {x : Int32} {L2 : List (Nat × AV)} {St : List AV} {S : SS} : ev c 314 2671 [l0, l1, l2, l3, l4, l5, some (aI x), l7] L2 St S = ev c 314 2673 [l0, l1, l2, l3, l4, l5, some (aI x), l7] L2 (aI x :: St) S := ev_go i314_2671 rfl
theorem i314_2673 : insAt 314 2673 = some (.if_icmp .eq 5, 3, (0, 0, 0, 0), 0) := rfl
theorem s314_2673 {c : Nat → List AV → SS → Option Out} {l0 l1 l2 l3 l4 l5 l6 l7 : Option AV} {x y : Int32} {L2 : List (Nat × AV)} {St : List AV} {S : SS} : ev c 314 2673 [l0, l1, l2, l3, l4, l5, l6, l7] L2 (aI y :: aI x :: St) S = if x = y then ev c 314 2678 [l0, l1, l2, l3, l4, l5, l6, l7] L2 St S else ev c 314 2676 [l0, l1, l2, l3, l4, l5, l6, l7] L2 St S := ev_br i314_2673 rfl
theorem i314_2676 : insAt 314 2676 = some (.iconst 0, 1, (0, 0, 0, 0), 0) := rfl
theorem s314_2676 {c : Nat → List AV → SS → Option Out} {l0 l1 l2 l3 l4 l5 l6 l7 : Option AV} {L2 : List (Nat × AV)} {St : List AV} {S : SS} : ev c 314 2676 [l0, l1, l2, l3, l4, l5, l6, l7] L2 St S = ev c 314 2677 [l0, l1, l2, l3, l4, l5, l6, l7] L2 (aI 0 :: St) S := ev_go i314_2676 rfl
theorem i314_2677 : insAt 314 2677 = some (.ireturn, 1, (0, 0, 0, 0), 0) := rfl
theorem s314_2677 {c : Nat → List AV → SS → Option Out} {l0 l1 l2 l3 l4 l5 l6 l7 : Option AV} {x : Int32} {L2 : List (Nat × AV)} {St : List AV} {S : SS} : ev c 314 2677 [l0, l1, l2, l3, l4, l5, l6, l7] L2 [aI x] S = if x = 0 ∨ x = 1 then some (.inl (some (aI x)), S) else none := ev_rt i314_2677 rfl
theorem i314_2678 : insAt 314 2678 = some (.iload 6, 2, (0, 0, 0, 0), 0) := rfl
theorem s314_2678 {c : Nat → List AV → SS → Option Out} {l0 l1 l2 l3 l4 l5 l7 : Option AV} {x : Int32} {L2 : List (Nat × AV)} {St : List AV} {S : SS} : ev c 314 2678 [l0, l1, l2, l3, l4, l5, some (aI x), l7] L2 St S = ev c 314 2680 [l0, l1, l2, l3, l4, l5, some (aI x), l7] L2 (aI x :: St) S := ev_go i314_2678 rfl
theorem i314_2680 : insAt 314 2680 = some (.ifCond .ne 15, 3, (0, 0, 0, 0), 0) := rfl
theorem s314_2680 {c : Nat → List AV → SS → Option Out} {l0 l1 l2 l3 l4 l5 l6 l7 : Option AV} {x : Int32} {L2 : List (Nat × AV)} {St : List AV} {S : SS} : ev c 314 2680 [l0, l1, l2, l3, l4, l5, l6, l7] L2 (aI x :: St) S = if x = 0 then ev c 314 2683 [l0, l1, l2, l3, l4, l5, l6, l7] L2 St S else ev c 314 2695 [l0, l1, l2, l3, l4, l5, l6, l7] L2 St S := (ev_br i314_2680 rfl).trans (ite_not _ _ _)
theorem i314_2683 : insAt 314 2683 = some (.aload_n 3, 1, (0, 0, 0, 0), 0) := rfl
theorem s314_2683 {c : Nat → List AV → SS → Option Out} {l0 l1 l2 l4 l5 l6 l7 : Option AV} {o : OId} {L2 : List (Nat × AV)} {St : List AV} {S : SS} : ev c 314 2683 [l0, l1, l2, some (aR o), l4, l5, l6, l7] L2 St S = ev c 314 2684 [l0, l1, l2, some (aR o), l4, l5, l6, l7] L2 (aR o :: St) S := ev_go i314_2683 rfl
theorem i314_2684 : insAt 314 2684 = some (.iconst 0, 1, (0, 0, 0, 0), 0) := rfl
theorem s314_2684 {c : Nat → List AV → SS → Option Out} {l0 l1 l2 l3 l4 l5 l6 l7 : Option AV} {L2 : List (Nat × AV)} {St : List AV} {S : SS} : ev c 314 2684 [l0, l1, l2, l3, l4, l5, l6, l7] L2 St S = ev c 314 2685 [l0, l1, l2, l3, l4, l5, l6, l7] L2 (aI 0 :: St) S := ev_go i314_2684 rfl
theorem i314_2685 : insAt 314 2685 = some (.laload, 1, (0, 0, 0, 0), 0) := rfl
theorem s314_2685 {c : Nat → List AV → SS → Option Out} {l0 l1 l2 l3 l4 l5 l6 l7 : Option AV} {i : Int32} {o : OId} {L2 : List (Nat × AV)} {St : List AV} {S : SS} : ev c 314 2685 [l0, l1, l2, l3, l4, l5, l6, l7] L2 (aI i :: aR o :: St) S = kJ o i (ev c 314 2686 [l0, l1, l2, l3, l4, l5, l6, l7] L2 (aL (toL (S.2.1 o i.toNatClampNeg)) :: St) S) := ev_laload i314_2685
theorem i314_2686 : insAt 314 2686 = some (.iload 7, 2, (0, 0, 0, 0), 0) := rfl
theorem s314_2686 {c : Nat → List AV → SS → Option Out} {l0 l1 l2 l3 l4 l5 l6 : Option AV} {x : Int32} {L2 : List (Nat × AV)} {St : List AV} {S : SS} : ev c 314 2686 [l0, l1, l2, l3, l4, l5, l6, some (aI x)] L2 St S = ev c 314 2688 [l0, l1, l2, l3, l4, l5, l6, some (aI x)] L2 (aI x :: St) S := ev_go i314_2686 rfl
theorem i314_2688 : insAt 314 2688 = some (.i2l, 1, (0, 0, 0, 0), 0) := rfl
theorem s314_2688 {c : Nat → List AV → SS → Option Out} {l0 l1 l2 l3 l4 l5 l6 l7 : Option AV} {x : Int32} {L2 : List (Nat × AV)} {St : List AV} {S : SS} : ev c 314 2688 [l0, l1, l2, l3, l4, l5, l6, l7] L2 (aI x :: St) S = ev c 314 2689 [l0, l1, l2, l3, l4, l5, l6, l7] L2 (aL x.toInt64 :: St) S := ev_go i314_2688 rfl
theorem i314_2689 : insAt 314 2689 = some (.lcmp, 1, (0, 0, 0, 0), 0) := rfl
theorem s314_2689 {c : Nat → List AV → SS → Option Out} {l0 l1 l2 l3 l4 l5 l6 l7 : Option AV} {x y : Int64} {L2 : List (Nat × AV)} {St : List AV} {S : SS} : ev c 314 2689 [l0, l1, l2, l3, l4, l5, l6, l7] L2 (aL y :: aL x :: St) S = ev c 314 2690 [l0, l1, l2, l3, l4, l5, l6, l7] L2 (aI (if x < y then -1 else if x = y then 0 else 1) :: St) S := ev_go i314_2689 rfl
theorem i314_2690 : insAt 314 2690 = some (.ifCond .eq 5, 3, (0, 0, 0, 0), 0) := rfl
theorem s314_2690 {c : Nat → List AV → SS → Option Out} {l0 l1 l2 l3 l4 l5 l6 l7 : Option AV} {x : Int32} {L2 : List (Nat × AV)} {St : List AV} {S : SS} : ev c 314 2690 [l0, l1, l2, l3, l4, l5, l6, l7] L2 (aI x :: St) S = if x = 0 then ev c 314 2695 [l0, l1, l2, l3, l4, l5, l6, l7] L2 St S else ev c 314 2693 [l0, l1, l2, l3, l4, l5, l6, l7] L2 St S := ev_br i314_2690 rfl
theorem i314_2693 : insAt 314 2693 = some (.iconst 0, 1, (0, 0, 0, 0), 0) := rfl
theorem s314_2693 {c : Nat → List AV → SS → Option Out} {l0 l1 l2 l3 l4 l5 l6 l7 : Option AV} {L2 : List (Nat × AV)} {St : List AV} {S : SS} : ev c 314 2693 [l0, l1, l2, l3, l4, l5, l6, l7] L2 St S = ev c 314 2694 [l0, l1, l2, l3, l4, l5, l6, l7] L2 (aI 0 :: St) S := ev_go i314_2693 rfl
theorem i314_2694 : insAt 314 2694 = some (.ireturn, 1, (0, 0, 0, 0), 0) := rfl
theorem s314_2694 {c : Nat → List AV → SS → Option Out} {l0 l1 l2 l3 l4 l5 l6 l7 : Option AV} {x : Int32} {L2 : List (Nat × AV)} {St : List AV} {S : SS} : ev c 314 2694 [l0, l1, l2, l3, l4, l5, l6, l7] L2 [aI x] S = if x = 0 ∨ x = 1 then some (.inl (some (aI x)), S) else none := ev_rt i314_2694 rfl
theorem i314_2695 : insAt 314 2695 = some (.goto 104, 3, (0, 0, 0, 0), 0) := rfl
theorem s314_2695 {c : Nat → List AV → SS → Option Out} {l0 l1 l2 l3 l4 l5 l6 l7 : Option AV} {L2 : List (Nat × AV)} {St : List AV} {S : SS} : ev c 314 2695 [l0, l1, l2, l3, l4, l5, l6, l7] L2 St S = ev c 314 2799 [l0, l1, l2, l3, l4, l5, l6, l7] L2 St S := ev_go i314_2695 rfl
theorem i314_2698 : insAt 314 2698 = some (.aload_n 1, 1, (0, 0, 0, 0), 0) := rfl
theorem s314_2698 {c : Nat → List AV → SS → Option Out} {l0 l2 l3 l4 l5 l6 l7 : Option AV} {o : OId} {L2 : List (Nat × AV)} {St : List AV} {S : SS} : ev c 314 2698 [l0, some (aR o), l2, l3, l4, l5, l6, l7] L2 St S = ev c 314 2699 [l0, some (aR o), l2, l3, l4, l5, l6, l7] L2 (aR o :: St) S := ev_go i314_2698 rfl
theorem i314_2699 : insAt 314 2699 = some (.aload_n 3, 1, (0, 0, 0, 0), 0) := rfl
theorem s314_2699 {c : Nat → List AV → SS → Option Out} {l0 l1 l2 l4 l5 l6 l7 : Option AV} {o : OId} {L2 : List (Nat × AV)} {St : List AV} {S : SS} : ev c 314 2699 [l0, l1, l2, some (aR o), l4, l5, l6, l7] L2 St S = ev c 314 2700 [l0, l1, l2, some (aR o), l4, l5, l6, l7] L2 (aR o :: St) S := ev_go i314_2699 rfl
theorem i314_2700 : insAt 314 2700 = some (.invokestatic 311, 3, (211, 2, 0, 0), 0) := rfl
theorem s314_2700 {c : Nat → List AV → SS → Option Out} {l0 l1 l2 l3 l4 l5 l6 l7 : Option AV} {a0 : OId} {a1 : OId} {L2 : List (Nat × AV)} {S : SS} : ev c 314 2700 [l0, l1, l2, l3, l4, l5, l6, l7] L2 [aR a1, aR a0] S = ck (c 211 [aR a0, aR a1] S) (fun v S' => ev c 314 2703 [l0, l1, l2, l3, l4, l5, l6, l7] L2 (v.toList ++ []) S') := ev_call i314_2700 rfl
theorem i314_2703 : insAt 314 2703 = some (.istore 6, 2, (0, 0, 0, 0), 0) := rfl
theorem s314_2703 {c : Nat → List AV → SS → Option Out} {l0 l1 l2 l3 l4 l5 l6 l7 : Option AV} {x : Int32} {L2 : List (Nat × AV)} {St : List AV} {S : SS} : ev c 314 2703 [l0, l1, l2, l3, l4, l5, l6, l7] L2 (aI x :: St) S = ev c 314 2705 [l0, l1, l2, l3, l4, l5, some (aI x), l7] (kil L2 6) St S := ev_go i314_2703 rfl
theorem i314_2705 : insAt 314 2705 = some (.aload_n 2, 1, (0, 0, 0, 0), 0) := rfl
theorem s314_2705 {c : Nat → List AV → SS → Option Out} {l0 l1 l3 l4 l5 l6 l7 : Option AV} {o : OId} {L2 : List (Nat × AV)} {St : List AV} {S : SS} : ev c 314 2705 [l0, l1, some (aR o), l3, l4, l5, l6, l7] L2 St S = ev c 314 2706 [l0, l1, some (aR o), l3, l4, l5, l6, l7] L2 (aR o :: St) S := ev_go i314_2705 rfl
theorem i314_2706 : insAt 314 2706 = some (.invokevirtual 313, 3, (311, 0, 2, 12), 0) := rfl
theorem s314_2706 {c : Nat → List AV → SS → Option Out} {l0 l1 l2 l3 l4 l5 l6 l7 : Option AV} {j t : Nat} {L2 : List (Nat × AV)} {S : SS} : ev c 314 2706 [l0, l1, l2, l3, l4, l5, l6, l7] L2 [aR (12, j, t)] S = ck (c 311 [aR (12, j, t)] S) (fun v S' => ev c 314 2709 [l0, l1, l2, l3, l4, l5, l6, l7] L2 (v.toList ++ []) S') := ev_call i314_2706 rfl
theorem i314_2709 : insAt 314 2709 = some (.istore 7, 2, (0, 0, 0, 0), 0) := rfl
theorem s314_2709 {c : Nat → List AV → SS → Option Out} {l0 l1 l2 l3 l4 l5 l6 l7 : Option AV} {x : Int32} {L2 : List (Nat × AV)} {St : List AV} {S : SS} : ev c 314 2709 [l0, l1, l2, l3, l4, l5, l6, l7] L2 (aI x :: St) S = ev c 314 2711 [l0, l1, l2, l3, l4, l5, l6, some (aI x)] (kil L2 7) St S := ev_go i314_2709 rfl
theorem i314_2711 : insAt 314 2711 = some (.aload_n 2, 1, (0, 0, 0, 0), 0) := rfl
theorem s314_2711 {c : Nat → List AV → SS → Option Out} {l0 l1 l3 l4 l5 l6 l7 : Option AV} {o : OId} {L2 : List (Nat × AV)} {St : List AV} {S : SS} : ev c 314 2711 [l0, l1, some (aR o), l3, l4, l5, l6, l7] L2 St S = ev c 314 2712 [l0, l1, some (aR o), l3, l4, l5, l6, l7] L2 (aR o :: St) S := ev_go i314_2711 rfl
theorem i314_2712 : insAt 314 2712 = some (.invokevirtual 149, 3, (218, 0, 2, 12), 0) := rfl
theorem s314_2712 {c : Nat → List AV → SS → Option Out} {l0 l1 l2 l3 l4 l5 l6 l7 : Option AV} {j t : Nat} {L2 : List (Nat × AV)} {S : SS} : ev c 314 2712 [l0, l1, l2, l3, l4, l5, l6, l7] L2 [aR (12, j, t)] S = ck (c 218 [aR (12, j, t)] S) (fun v S' => ev c 314 2715 [l0, l1, l2, l3, l4, l5, l6, l7] L2 (v.toList ++ []) S') := ev_call i314_2712 rfl
theorem i314_2715 : insAt 314 2715 = some (.iload 6, 2, (0, 0, 0, 0), 0) := rfl
theorem s314_2715 {c : Nat → List AV → SS → Option Out} {l0 l1 l2 l3 l4 l5 l7 : Option AV} {x : Int32} {L2 : List (Nat × AV)} {St : List AV} {S : SS} : ev c 314 2715 [l0, l1, l2, l3, l4, l5, some (aI x), l7] L2 St S = ev c 314 2717 [l0, l1, l2, l3, l4, l5, some (aI x), l7] L2 (aI x :: St) S := ev_go i314_2715 rfl
theorem i314_2717 : insAt 314 2717 = some (.if_icmp .eq 5, 3, (0, 0, 0, 0), 0) := rfl
theorem s314_2717 {c : Nat → List AV → SS → Option Out} {l0 l1 l2 l3 l4 l5 l6 l7 : Option AV} {x y : Int32} {L2 : List (Nat × AV)} {St : List AV} {S : SS} : ev c 314 2717 [l0, l1, l2, l3, l4, l5, l6, l7] L2 (aI y :: aI x :: St) S = if x = y then ev c 314 2722 [l0, l1, l2, l3, l4, l5, l6, l7] L2 St S else ev c 314 2720 [l0, l1, l2, l3, l4, l5, l6, l7] L2 St S := ev_br i314_2717 rfl
theorem i314_2720 : insAt 314 2720 = some (.iconst 0, 1, (0, 0, 0, 0), 0) := rfl
theorem s314_2720 {c : Nat → List AV → SS → Option Out} {l0 l1 l2 l3 l4 l5 l6 l7 : Option AV} {L2 : List (Nat × AV)} {St : List AV} {S : SS} : ev c 314 2720 [l0, l1, l2, l3, l4, l5, l6, l7] L2 St S = ev c 314 2721 [l0, l1, l2, l3, l4, l5, l6, l7] L2 (aI 0 :: St) S := ev_go i314_2720 rfl
theorem i314_2721 : insAt 314 2721 = some (.ireturn, 1, (0, 0, 0, 0), 0) := rfl
theorem s314_2721 {c : Nat → List AV → SS → Option Out} {l0 l1 l2 l3 l4 l5 l6 l7 : Option AV} {x : Int32} {L2 : List (Nat × AV)} {St : List AV} {S : SS} : ev c 314 2721 [l0, l1, l2, l3, l4, l5, l6, l7] L2 [aI x] S = if x = 0 ∨ x = 1 then some (.inl (some (aI x)), S) else none := ev_rt i314_2721 rfl
theorem i314_2722 : insAt 314 2722 = some (.iload 6, 2, (0, 0, 0, 0), 0) := rfl
theorem s314_2722 {c : Nat → List AV → SS → Option Out} {l0 l1 l2 l3 l4 l5 l7 : Option AV} {x : Int32} {L2 : List (Nat × AV)} {St : List AV} {S : SS} : ev c 314 2722 [l0, l1, l2, l3, l4, l5, some (aI x), l7] L2 St S = ev c 314 2724 [l0, l1, l2, l3, l4, l5, some (aI x), l7] L2 (aI x :: St) S := ev_go i314_2722 rfl
theorem i314_2724 : insAt 314 2724 = some (.ifCond .ne 15, 3, (0, 0, 0, 0), 0) := rfl
theorem s314_2724 {c : Nat → List AV → SS → Option Out} {l0 l1 l2 l3 l4 l5 l6 l7 : Option AV} {x : Int32} {L2 : List (Nat × AV)} {St : List AV} {S : SS} : ev c 314 2724 [l0, l1, l2, l3, l4, l5, l6, l7] L2 (aI x :: St) S = if x = 0 then ev c 314 2727 [l0, l1, l2, l3, l4, l5, l6, l7] L2 St S else ev c 314 2739 [l0, l1, l2, l3, l4, l5, l6, l7] L2 St S := (ev_br i314_2724 rfl).trans (ite_not _ _ _)
theorem i314_2727 : insAt 314 2727 = some (.aload_n 3, 1, (0, 0, 0, 0), 0) := rfl
theorem s314_2727 {c : Nat → List AV → SS → Option Out} {l0 l1 l2 l4 l5 l6 l7 : Option AV} {o : OId} {L2 : List (Nat × AV)} {St : List AV} {S : SS} : ev c 314 2727 [l0, l1, l2, some (aR o), l4, l5, l6, l7] L2 St S = ev c 314 2728 [l0, l1, l2, some (aR o), l4, l5, l6, l7] L2 (aR o :: St) S := ev_go i314_2727 rfl
theorem i314_2728 : insAt 314 2728 = some (.iconst 0, 1, (0, 0, 0, 0), 0) := rfl
theorem s314_2728 {c : Nat → List AV → SS → Option Out} {l0 l1 l2 l3 l4 l5 l6 l7 : Option AV} {L2 : List (Nat × AV)} {St : List AV} {S : SS} : ev c 314 2728 [l0, l1, l2, l3, l4, l5, l6, l7] L2 St S = ev c 314 2729 [l0, l1, l2, l3, l4, l5, l6, l7] L2 (aI 0 :: St) S := ev_go i314_2728 rfl
theorem i314_2729 : insAt 314 2729 = some (.laload, 1, (0, 0, 0, 0), 0) := rfl
theorem s314_2729 {c : Nat → List AV → SS → Option Out} {l0 l1 l2 l3 l4 l5 l6 l7 : Option AV} {i : Int32} {o : OId} {L2 : List (Nat × AV)} {St : List AV} {S : SS} : ev c 314 2729 [l0, l1, l2, l3, l4, l5, l6, l7] L2 (aI i :: aR o :: St) S = kJ o i (ev c 314 2730 [l0, l1, l2, l3, l4, l5, l6, l7] L2 (aL (toL (S.2.1 o i.toNatClampNeg)) :: St) S) := ev_laload i314_2729
theorem i314_2730 : insAt 314 2730 = some (.iload 7, 2, (0, 0, 0, 0), 0) := rfl
theorem s314_2730 {c : Nat → List AV → SS → Option Out} {l0 l1 l2 l3 l4 l5 l6 : Option AV} {x : Int32} {L2 : List (Nat × AV)} {St : List AV} {S : SS} : ev c 314 2730 [l0, l1, l2, l3, l4, l5, l6, some (aI x)] L2 St S = ev c 314 2732 [l0, l1, l2, l3, l4, l5, l6, some (aI x)] L2 (aI x :: St) S := ev_go i314_2730 rfl
theorem i314_2732 : insAt 314 2732 = some (.i2l, 1, (0, 0, 0, 0), 0) := rfl
theorem s314_2732 {c : Nat → List AV → SS → Option Out} {l0 l1 l2 l3 l4 l5 l6 l7 : Option AV} {x : Int32} {L2 : List (Nat × AV)} {St : List AV} {S : SS} : ev c 314 2732 [l0, l1, l2, l3, l4, l5, l6, l7] L2 (aI x :: St) S = ev c 314 2733 [l0, l1, l2, l3, l4, l5, l6, l7] L2 (aL x.toInt64 :: St) S := ev_go i314_2732 rfl
theorem i314_2733 : insAt 314 2733 = some (.lcmp, 1, (0, 0, 0, 0), 0) := rfl
theorem s314_2733 {c : Nat → List AV → SS → Option Out} {l0 l1 l2 l3 l4 l5 l6 l7 : Option AV} {x y : Int64} {L2 : List (Nat × AV)} {St : List AV} {S : SS} : ev c 314 2733 [l0, l1, l2, l3, l4, l5, l6, l7] L2 (aL y :: aL x :: St) S = ev c 314 2734 [l0, l1, l2, l3, l4, l5, l6, l7] L2 (aI (if x < y then -1 else if x = y then 0 else 1) :: St) S := ev_go i314_2733 rfl
theorem i314_2734 : insAt 314 2734 = some (.ifCond .eq 5, 3, (0, 0, 0, 0), 0) := rfl
theorem s314_2734 {c : Nat → List AV → SS → Option Out} {l0 l1 l2 l3 l4 l5 l6 l7 : Option AV} {x : Int32} {L2 : List (Nat × AV)} {St : List AV} {S : SS} : ev c 314 2734 [l0, l1, l2, l3, l4, l5, l6, l7] L2 (aI x :: St) S = if x = 0 then ev c 314 2739 [l0, l1, l2, l3, l4, l5, l6, l7] L2 St S else ev c 314 2737 [l0, l1, l2, l3, l4, l5, l6, l7] L2 St S := ev_br i314_2734 rfl
theorem i314_2737 : insAt 314 2737 = some (.iconst 0, 1, (0, 0, 0, 0), 0) := rfl
theorem s314_2737 {c : Nat → List AV → SS → Option Out} {l0 l1 l2 l3 l4 l5 l6 l7 : Option AV} {L2 : List (Nat × AV)} {St : List AV} {S : SS} : ev c 314 2737 [l0, l1, l2, l3, l4, l5, l6, l7] L2 St S = ev c 314 2738 [l0, l1, l2, l3, l4, l5, l6, l7] L2 (aI 0 :: St) S := ev_go i314_2737 rfl
theorem i314_2738 : insAt 314 2738 = some (.ireturn, 1, (0, 0, 0, 0), 0) := rfl
theorem s314_2738 {c : Nat → List AV → SS → Option Out} {l0 l1 l2 l3 l4 l5 l6 l7 : Option AV} {x : Int32} {L2 : List (Nat × AV)} {St : List AV} {S : SS} : ev c 314 2738 [l0, l1, l2, l3, l4, l5, l6, l7] L2 [aI x] S = if x = 0 ∨ x = 1 then some (.inl (some (aI x)), S) else none := ev_rt i314_2738 rfl
theorem i314_2739 : insAt 314 2739 = some (.goto 60, 3, (0, 0, 0, 0), 0) := rfl
theorem s314_2739 {c : Nat → List AV → SS → Option Out} {l0 l1 l2 l3 l4 l5 l6 l7 : Option AV} {L2 : List (Nat × AV)} {St : List AV} {S : SS} : ev c 314 2739 [l0, l1, l2, l3, l4, l5, l6, l7] L2 St S = ev c 314 2799 [l0, l1, l2, l3, l4, l5, l6, l7] L2 St S := ev_go i314_2739 rfl
theorem i314_2742 : insAt 314 2742 = some (.aload_n 1, 1, (0, 0, 0, 0), 0) := rfl
theorem s314_2742 {c : Nat → List AV → SS → Option Out} {l0 l2 l3 l4 l5 l6 l7 : Option AV} {o : OId} {L2 : List (Nat × AV)} {St : List AV} {S : SS} : ev c 314 2742 [l0, some (aR o), l2, l3, l4, l5, l6, l7] L2 St S = ev c 314 2743 [l0, some (aR o), l2, l3, l4, l5, l6, l7] L2 (aR o :: St) S := ev_go i314_2742 rfl
theorem i314_2743 : insAt 314 2743 = some (.invokevirtual 314, 3, (55, 0, 2, 11), 0) := rfl
theorem s314_2743 {c : Nat → List AV → SS → Option Out} {l0 l1 l2 l3 l4 l5 l6 l7 : Option AV} {j t : Nat} {L2 : List (Nat × AV)} {S : SS} : ev c 314 2743 [l0, l1, l2, l3, l4, l5, l6, l7] L2 [aR (11, j, t)] S = ck (c 55 [aR (11, j, t)] S) (fun v S' => ev c 314 2746 [l0, l1, l2, l3, l4, l5, l6, l7] L2 (v.toList ++ []) S') := ev_call i314_2743 rfl
theorem i314_2746 : insAt 314 2746 = some (.aload_n 2, 1, (0, 0, 0, 0), 0) := rfl
theorem s314_2746 {c : Nat → List AV → SS → Option Out} {l0 l1 l3 l4 l5 l6 l7 : Option AV} {o : OId} {L2 : List (Nat × AV)} {St : List AV} {S : SS} : ev c 314 2746 [l0, l1, some (aR o), l3, l4, l5, l6, l7] L2 St S = ev c 314 2747 [l0, l1, some (aR o), l3, l4, l5, l6, l7] L2 (aR o :: St) S := ev_go i314_2746 rfl
theorem i314_2747 : insAt 314 2747 = some (.invokevirtual 317, 3, (312, 0, 2, 12), 0) := rfl
theorem s314_2747 {c : Nat → List AV → SS → Option Out} {l0 l1 l2 l3 l4 l5 l6 l7 : Option AV} {t0 : AV} {j t : Nat} {L2 : List (Nat × AV)} {S : SS} : ev c 314 2747 [l0, l1, l2, l3, l4, l5, l6, l7] L2 [aR (12, j, t), t0] S = ck (c 312 [aR (12, j, t)] S) (fun v S' => ev c 314 2750 [l0, l1, l2, l3, l4, l5, l6, l7] L2 (v.toList ++ [t0]) S') := ev_call i314_2747 rfl
theorem i314_2750 : insAt 314 2750 = some (.if_icmp .eq 49, 3, (0, 0, 0, 0), 0) := rfl
theorem s314_2750 {c : Nat → List AV → SS → Option Out} {l0 l1 l2 l3 l4 l5 l6 l7 : Option AV} {x y : Int32} {L2 : List (Nat × AV)} {St : List AV} {S : SS} : ev c 314 2750 [l0, l1, l2, l3, l4, l5, l6, l7] L2 (aI y :: aI x :: St) S = if x = y then ev c 314 2799 [l0, l1, l2, l3, l4, l5, l6, l7] L2 St S else ev c 314 2753 [l0, l1, l2, l3, l4, l5, l6, l7] L2 St S := ev_br i314_2750 rfl
theorem i314_2753 : insAt 314 2753 = some (.iconst 0, 1, (0, 0, 0, 0), 0) := rfl
theorem s314_2753 {c : Nat → List AV → SS → Option Out} {l0 l1 l2 l3 l4 l5 l6 l7 : Option AV} {L2 : List (Nat × AV)} {St : List AV} {S : SS} : ev c 314 2753 [l0, l1, l2, l3, l4, l5, l6, l7] L2 St S = ev c 314 2754 [l0, l1, l2, l3, l4, l5, l6, l7] L2 (aI 0 :: St) S := ev_go i314_2753 rfl
theorem i314_2754 : insAt 314 2754 = some (.ireturn, 1, (0, 0, 0, 0), 0) := rfl
theorem s314_2754 {c : Nat → List AV → SS → Option Out} {l0 l1 l2 l3 l4 l5 l6 l7 : Option AV} {x : Int32} {L2 : List (Nat × AV)} {St : List AV} {S : SS} : ev c 314 2754 [l0, l1, l2, l3, l4, l5, l6, l7] L2 [aI x] S = if x = 0 ∨ x = 1 then some (.inl (some (aI x)), S) else none := ev_rt i314_2754 rfl
theorem i314_2755 : insAt 314 2755 = some (.aload_n 1, 1, (0, 0, 0, 0), 0) := rfl
theorem s314_2755 {c : Nat → List AV → SS → Option Out} {l0 l2 l3 l4 l5 l6 l7 : Option AV} {o : OId} {L2 : List (Nat × AV)} {St : List AV} {S : SS} : ev c 314 2755 [l0, some (aR o), l2, l3, l4, l5, l6, l7] L2 St S = ev c 314 2756 [l0, some (aR o), l2, l3, l4, l5, l6, l7] L2 (aR o :: St) S := ev_go i314_2755 rfl
theorem i314_2756 : insAt 314 2756 = some (.aload_n 3, 1, (0, 0, 0, 0), 0) := rfl
theorem s314_2756 {c : Nat → List AV → SS → Option Out} {l0 l1 l2 l4 l5 l6 l7 : Option AV} {o : OId} {L2 : List (Nat × AV)} {St : List AV} {S : SS} : ev c 314 2756 [l0, l1, l2, some (aR o), l4, l5, l6, l7] L2 St S = ev c 314 2757 [l0, l1, l2, some (aR o), l4, l5, l6, l7] L2 (aR o :: St) S := ev_go i314_2756 rfl
theorem i314_2757 : insAt 314 2757 = some (.invokestatic 318, 3, (214, 2, 0, 0), 0) := rfl
theorem s314_2757 {c : Nat → List AV → SS → Option Out} {l0 l1 l2 l3 l4 l5 l6 l7 : Option AV} {a0 : OId} {a1 : OId} {L2 : List (Nat × AV)} {S : SS} : ev c 314 2757 [l0, l1, l2, l3, l4, l5, l6, l7] L2 [aR a1, aR a0] S = ck (c 214 [aR a0, aR a1] S) (fun v S' => ev c 314 2760 [l0, l1, l2, l3, l4, l5, l6, l7] L2 (v.toList ++ []) S') := ev_call i314_2757 rfl
theorem i314_2760 : insAt 314 2760 = some (.istore 6, 2, (0, 0, 0, 0), 0) := rfl
theorem s314_2760 {c : Nat → List AV → SS → Option Out} {l0 l1 l2 l3 l4 l5 l6 l7 : Option AV} {x : Int32} {L2 : List (Nat × AV)} {St : List AV} {S : SS} : ev c 314 2760 [l0, l1, l2, l3, l4, l5, l6, l7] L2 (aI x :: St) S = ev c 314 2762 [l0, l1, l2, l3, l4, l5, some (aI x), l7] (kil L2 6) St S := ev_go i314_2760 rfl
theorem i314_2762 : insAt 314 2762 = some (.aload_n 2, 1, (0, 0, 0, 0), 0) := rfl
theorem s314_2762 {c : Nat → List AV → SS → Option Out} {l0 l1 l3 l4 l5 l6 l7 : Option AV} {o : OId} {L2 : List (Nat × AV)} {St : List AV} {S : SS} : ev c 314 2762 [l0, l1, some (aR o), l3, l4, l5, l6, l7] L2 St S = ev c 314 2763 [l0, l1, some (aR o), l3, l4, l5, l6, l7] L2 (aR o :: St) S := ev_go i314_2762 rfl
theorem i314_2763 : insAt 314 2763 = some (.invokevirtual 320, 3, (313, 0, 2, 12), 0) := rfl
theorem s314_2763 {c : Nat → List AV → SS → Option Out} {l0 l1 l2 l3 l4 l5 l6 l7 : Option AV} {j t : Nat} {L2 : List (Nat × AV)} {S : SS} : ev c 314 2763 [l0, l1, l2, l3, l4, l5, l6, l7] L2 [aR (12, j, t)] S = ck (c 313 [aR (12, j, t)] S) (fun v S' => ev c 314 2766 [l0, l1, l2, l3, l4, l5, l6, l7] L2 (v.toList ++ []) S') := ev_call i314_2763 rfl
theorem i314_2766 : insAt 314 2766 = some (.istore 7, 2, (0, 0, 0, 0), 0) := rfl
theorem s314_2766 {c : Nat → List AV → SS → Option Out} {l0 l1 l2 l3 l4 l5 l6 l7 : Option AV} {x : Int32} {L2 : List (Nat × AV)} {St : List AV} {S : SS} : ev c 314 2766 [l0, l1, l2, l3, l4, l5, l6, l7] L2 (aI x :: St) S = ev c 314 2768 [l0, l1, l2, l3, l4, l5, l6, some (aI x)] (kil L2 7) St S := ev_go i314_2766 rfl
theorem i314_2768 : insAt 314 2768 = some (.aload_n 2, 1, (0, 0, 0, 0), 0) := rfl
theorem s314_2768 {c : Nat → List AV → SS → Option Out} {l0 l1 l3 l4 l5 l6 l7 : Option AV} {o : OId} {L2 : List (Nat × AV)} {St : List AV} {S : SS} : ev c 314 2768 [l0, l1, some (aR o), l3, l4, l5, l6, l7] L2 St S = ev c 314 2769 [l0, l1, some (aR o), l3, l4, l5, l6, l7] L2 (aR o :: St) S := ev_go i314_2768 rfl
theorem i314_2769 : insAt 314 2769 = some (.invokevirtual 149, 3, (218, 0, 2, 12), 0) := rfl
theorem s314_2769 {c : Nat → List AV → SS → Option Out} {l0 l1 l2 l3 l4 l5 l6 l7 : Option AV} {j t : Nat} {L2 : List (Nat × AV)} {S : SS} : ev c 314 2769 [l0, l1, l2, l3, l4, l5, l6, l7] L2 [aR (12, j, t)] S = ck (c 218 [aR (12, j, t)] S) (fun v S' => ev c 314 2772 [l0, l1, l2, l3, l4, l5, l6, l7] L2 (v.toList ++ []) S') := ev_call i314_2769 rfl
theorem i314_2772 : insAt 314 2772 = some (.iload 6, 2, (0, 0, 0, 0), 0) := rfl
theorem s314_2772 {c : Nat → List AV → SS → Option Out} {l0 l1 l2 l3 l4 l5 l7 : Option AV} {x : Int32} {L2 : List (Nat × AV)} {St : List AV} {S : SS} : ev c 314 2772 [l0, l1, l2, l3, l4, l5, some (aI x), l7] L2 St S = ev c 314 2774 [l0, l1, l2, l3, l4, l5, some (aI x), l7] L2 (aI x :: St) S := ev_go i314_2772 rfl
theorem i314_2774 : insAt 314 2774 = some (.if_icmp .eq 5, 3, (0, 0, 0, 0), 0) := rfl
theorem s314_2774 {c : Nat → List AV → SS → Option Out} {l0 l1 l2 l3 l4 l5 l6 l7 : Option AV} {x y : Int32} {L2 : List (Nat × AV)} {St : List AV} {S : SS} : ev c 314 2774 [l0, l1, l2, l3, l4, l5, l6, l7] L2 (aI y :: aI x :: St) S = if x = y then ev c 314 2779 [l0, l1, l2, l3, l4, l5, l6, l7] L2 St S else ev c 314 2777 [l0, l1, l2, l3, l4, l5, l6, l7] L2 St S := ev_br i314_2774 rfl
theorem i314_2777 : insAt 314 2777 = some (.iconst 0, 1, (0, 0, 0, 0), 0) := rfl
theorem s314_2777 {c : Nat → List AV → SS → Option Out} {l0 l1 l2 l3 l4 l5 l6 l7 : Option AV} {L2 : List (Nat × AV)} {St : List AV} {S : SS} : ev c 314 2777 [l0, l1, l2, l3, l4, l5, l6, l7] L2 St S = ev c 314 2778 [l0, l1, l2, l3, l4, l5, l6, l7] L2 (aI 0 :: St) S := ev_go i314_2777 rfl
theorem i314_2778 : insAt 314 2778 = some (.ireturn, 1, (0, 0, 0, 0), 0) := rfl
theorem s314_2778 {c : Nat → List AV → SS → Option Out} {l0 l1 l2 l3 l4 l5 l6 l7 : Option AV} {x : Int32} {L2 : List (Nat × AV)} {St : List AV} {S : SS} : ev c 314 2778 [l0, l1, l2, l3, l4, l5, l6, l7] L2 [aI x] S = if x = 0 ∨ x = 1 then some (.inl (some (aI x)), S) else none := ev_rt i314_2778 rfl
theorem i314_2779 : insAt 314 2779 = some (.iload 6, 2, (0, 0, 0, 0), 0) := rfl
theorem s314_2779 {c : Nat → List AV → SS → Option Out} {l0 l1 l2 l3 l4 l5 l7 : Option AV} {x : Int32} {L2 : List (Nat × AV)} {St : List AV} {S : SS} : ev c 314 2779 [l0, l1, l2, l3, l4, l5, some (aI x), l7] L2 St S = ev c 314 2781 [l0, l1, l2, l3, l4, l5, some (aI x), l7] L2 (aI x :: St) S := ev_go i314_2779 rfl
theorem i314_2781 : insAt 314 2781 = some (.ifCond .ne 15, 3, (0, 0, 0, 0), 0) := rfl
theorem s314_2781 {c : Nat → List AV → SS → Option Out} {l0 l1 l2 l3 l4 l5 l6 l7 : Option AV} {x : Int32} {L2 : List (Nat × AV)} {St : List AV} {S : SS} : ev c 314 2781 [l0, l1, l2, l3, l4, l5, l6, l7] L2 (aI x :: St) S = if x = 0 then ev c 314 2784 [l0, l1, l2, l3, l4, l5, l6, l7] L2 St S else ev c 314 2796 [l0, l1, l2, l3, l4, l5, l6, l7] L2 St S := (ev_br i314_2781 rfl).trans (ite_not _ _ _)
theorem i314_2784 : insAt 314 2784 = some (.aload_n 3, 1, (0, 0, 0, 0), 0) := rfl
theorem s314_2784 {c : Nat → List AV → SS → Option Out} {l0 l1 l2 l4 l5 l6 l7 : Option AV} {o : OId} {L2 : List (Nat × AV)} {St : List AV} {S : SS} : ev c 314 2784 [l0, l1, l2, some (aR o), l4, l5, l6, l7] L2 St S = ev c 314 2785 [l0, l1, l2, some (aR o), l4, l5, l6, l7] L2 (aR o :: St) S := ev_go i314_2784 rfl
theorem i314_2785 : insAt 314 2785 = some (.iconst 0, 1, (0, 0, 0, 0), 0) := rfl
theorem s314_2785 {c : Nat → List AV → SS → Option Out} {l0 l1 l2 l3 l4 l5 l6 l7 : Option AV} {L2 : List (Nat × AV)} {St : List AV} {S : SS} : ev c 314 2785 [l0, l1, l2, l3, l4, l5, l6, l7] L2 St S = ev c 314 2786 [l0, l1, l2, l3, l4, l5, l6, l7] L2 (aI 0 :: St) S := ev_go i314_2785 rfl
theorem i314_2786 : insAt 314 2786 = some (.laload, 1, (0, 0, 0, 0), 0) := rfl
theorem s314_2786 {c : Nat → List AV → SS → Option Out} {l0 l1 l2 l3 l4 l5 l6 l7 : Option AV} {i : Int32} {o : OId} {L2 : List (Nat × AV)} {St : List AV} {S : SS} : ev c 314 2786 [l0, l1, l2, l3, l4, l5, l6, l7] L2 (aI i :: aR o :: St) S = kJ o i (ev c 314 2787 [l0, l1, l2, l3, l4, l5, l6, l7] L2 (aL (toL (S.2.1 o i.toNatClampNeg)) :: St) S) := ev_laload i314_2786
theorem i314_2787 : insAt 314 2787 = some (.iload 7, 2, (0, 0, 0, 0), 0) := rfl
theorem s314_2787 {c : Nat → List AV → SS → Option Out} {l0 l1 l2 l3 l4 l5 l6 : Option AV} {x : Int32} {L2 : List (Nat × AV)} {St : List AV} {S : SS} : ev c 314 2787 [l0, l1, l2, l3, l4, l5, l6, some (aI x)] L2 St S = ev c 314 2789 [l0, l1, l2, l3, l4, l5, l6, some (aI x)] L2 (aI x :: St) S := ev_go i314_2787 rfl
theorem i314_2789 : insAt 314 2789 = some (.i2l, 1, (0, 0, 0, 0), 0) := rfl
theorem s314_2789 {c : Nat → List AV → SS → Option Out} {l0 l1 l2 l3 l4 l5 l6 l7 : Option AV} {x : Int32} {L2 : List (Nat × AV)} {St : List AV} {S : SS} : ev c 314 2789 [l0, l1, l2, l3, l4, l5, l6, l7] L2 (aI x :: St) S = ev c 314 2790 [l0, l1, l2, l3, l4, l5, l6, l7] L2 (aL x.toInt64 :: St) S := ev_go i314_2789 rfl
theorem i314_2790 : insAt 314 2790 = some (.lcmp, 1, (0, 0, 0, 0), 0) := rfl
theorem s314_2790 {c : Nat → List AV → SS → Option Out} {l0 l1 l2 l3 l4 l5 l6 l7 : Option AV} {x y : Int64} {L2 : List (Nat × AV)} {St : List AV} {S : SS} : ev c 314 2790 [l0, l1, l2, l3, l4, l5, l6, l7] L2 (aL y :: aL x :: St) S = ev c 314 2791 [l0, l1, l2, l3, l4, l5, l6, l7] L2 (aI (if x < y then -1 else if x = y then 0 else 1) :: St) S := ev_go i314_2790 rfl
theorem i314_2791 : insAt 314 2791 = some (.ifCond .eq 5, 3, (0, 0, 0, 0), 0) := rfl
theorem s314_2791 {c : Nat → List AV → SS → Option Out} {l0 l1 l2 l3 l4 l5 l6 l7 : Option AV} {x : Int32} {L2 : List (Nat × AV)} {St : List AV} {S : SS} : ev c 314 2791 [l0, l1, l2, l3, l4, l5, l6, l7] L2 (aI x :: St) S = if x = 0 then ev c 314 2796 [l0, l1, l2, l3, l4, l5, l6, l7] L2 St S else ev c 314 2794 [l0, l1, l2, l3, l4, l5, l6, l7] L2 St S := ev_br i314_2791 rfl
theorem i314_2794 : insAt 314 2794 = some (.iconst 0, 1, (0, 0, 0, 0), 0) := rfl
theorem s314_2794 {c : Nat → List AV → SS → Option Out} {l0 l1 l2 l3 l4 l5 l6 l7 : Option AV} {L2 : List (Nat × AV)} {St : List AV} {S : SS} : ev c 314 2794 [l0, l1, l2, l3, l4, l5, l6, l7] L2 St S = ev c 314 2795 [l0, l1, l2, l3, l4, l5, l6, l7] L2 (aI 0 :: St) S := ev_go i314_2794 rfl
theorem i314_2795 : insAt 314 2795 = some (.ireturn, 1, (0, 0, 0, 0), 0) := rfl
theorem s314_2795 {c : Nat → List AV → SS → Option Out} {l0 l1 l2 l3 l4 l5 l6 l7 : Option AV} {x : Int32} {L2 : List (Nat × AV)} {St : List AV} {S : SS} : ev c 314 2795 [l0, l1, l2, l3, l4, l5, l6, l7] L2 [aI x] S = if x = 0 ∨ x = 1 then some (.inl (some (aI x)), S) else none := ev_rt i314_2795 rfl
theorem i314_2796 : insAt 314 2796 = some (.goto 3, 3, (0, 0, 0, 0), 0) := rfl
theorem s314_2796 {c : Nat → List AV → SS → Option Out} {l0 l1 l2 l3 l4 l5 l6 l7 : Option AV} {L2 : List (Nat × AV)} {St : List AV} {S : SS} : ev c 314 2796 [l0, l1, l2, l3, l4, l5, l6, l7] L2 St S = ev c 314 2799 [l0, l1, l2, l3, l4, l5, l6, l7] L2 St S := ev_go i314_2796 rfl
theorem i314_2799 : insAt 314 2799 = some (.iinc 5 4, 3, (0, 0, 0, 0), 0) := rfl
theorem s314_2799 {c : Nat → List AV → SS → Option Out} {l0 l1 l2 l3 l4 l6 l7 : Option AV} {x : Int32} {L2 : List (Nat × AV)} {St : List AV} {S : SS} : ev c 314 2799 [l0, l1, l2, l3, l4, some (aI x), l6, l7] L2 St S = ev c 314 2802 [l0, l1, l2, l3, l4, some (aI (x + 4)), l6, l7] (kil L2 5) St S := ev_go i314_2799 rfl
theorem i314_2802 : insAt 314 2802 = some (.goto (-2774), 3, (0, 0, 0, 0), 0) := rfl
theorem s314_2802 {c : Nat → List AV → SS → Option Out} {l0 l1 l2 l3 l4 l5 l6 l7 : Option AV} {L2 : List (Nat × AV)} {St : List AV} {S : SS} : ev c 314 2802 [l0, l1, l2, l3, l4, l5, l6, l7] L2 St S = ev c 314 28 [l0, l1, l2, l3, l4, l5, l6, l7] L2 St S := ev_go i314_2802 rfl
theorem i314_2805 : insAt 314 2805 = some (.iconst 1, 1, (0, 0, 0, 0), 0) := rfl
theorem s314_2805 {c : Nat → List AV → SS → Option Out} {l0 l1 l2 l3 l4 l5 l6 l7 : Option AV} {L2 : List (Nat × AV)} {St : List AV} {S : SS} : ev c 314 2805 [l0, l1, l2, l3, l4, l5, l6, l7] L2 St S = ev c 314 2806 [l0, l1, l2, l3, l4, l5, l6, l7] L2 (aI 1 :: St) S := ev_go i314_2805 rfl
theorem i314_2806 : insAt 314 2806 = some (.ireturn, 1, (0, 0, 0, 0), 0) := rfl
theorem s314_2806 {c : Nat → List AV → SS → Option Out} {l0 l1 l2 l3 l4 l5 l6 l7 : Option AV} {x : Int32} {L2 : List (Nat × AV)} {St : List AV} {S : SS} : ev c 314 2806 [l0, l1, l2, l3, l4, l5, l6, l7] L2 [aI x] S = if x = 0 ∨ x = 1 then some (.inl (some (aI x)), S) else none := ev_rt i314_2806 rfl
theorem m314 {d : Nat} {a0 : OId} {S : SS} : evm (d + 1) 314 [aR a0] S = ev (evm d) 314 0 [some (aR a0), none, none, none, none, none, none, none] [] [] S := evm_s (n := 8) rfl (Nat.le_of_ble_eq_true rfl) rfl rfl
