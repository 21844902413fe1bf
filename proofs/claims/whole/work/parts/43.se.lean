/-! FrequencyOfficeLaw.setRadii(LFrequencyOffice;III[J)I -/
theorem i56_0 : insAt 56 0 = some (.aload 4, 2, (0, 0, 0, 0), 0) := rfl
theorem s56_0 {c : Nat → List AV → SS → Option Out} {l0 l1 l2 l3 l5 : Option AV} {o : OId} {L2 : List (Nat × AV)} {St : List AV} {S : SS} : ev c 56 0 [l0, l1, l2, l3, some (aR o), l5] L2 St S = ev c 56 2 [l0, l1, l2, l3, some (aR o), l5] L2 (aR o :: St) S := ev_go i56_0 rfl
theorem i56_2 : insAt 56 2 = some (.iconst 0, 1, (0, 0, 0, 0), 0) := rfl
theorem s56_2 {c : Nat → List AV → SS → Option Out} {l0 l1 l2 l3 l4 l5 : Option AV} {L2 : List (Nat × AV)} {St : List AV} {S : SS} : ev c 56 2 [l0, l1, l2, l3, l4, l5] L2 St S = ev c 56 3 [l0, l1, l2, l3, l4, l5] L2 (aI 0 :: St) S := ev_go i56_2 rfl
theorem i56_3 : insAt 56 3 = some (.aload_n 0, 1, (0, 0, 0, 0), 0) := rfl
theorem s56_3 {c : Nat → List AV → SS → Option Out} {l1 l2 l3 l4 l5 : Option AV} {o : OId} {L2 : List (Nat × AV)} {St : List AV} {S : SS} : ev c 56 3 [some (aR o), l1, l2, l3, l4, l5] L2 St S = ev c 56 4 [some (aR o), l1, l2, l3, l4, l5] L2 (aR o :: St) S := ev_go i56_3 rfl
theorem i56_4 : insAt 56 4 = some (.iload_n 1, 1, (0, 0, 0, 0), 0) := rfl
theorem s56_4 {c : Nat → List AV → SS → Option Out} {l0 l2 l3 l4 l5 : Option AV} {x : Int32} {L2 : List (Nat × AV)} {St : List AV} {S : SS} : ev c 56 4 [l0, some (aI x), l2, l3, l4, l5] L2 St S = ev c 56 5 [l0, some (aI x), l2, l3, l4, l5] L2 (aI x :: St) S := ev_go i56_4 rfl
theorem i56_5 : insAt 56 5 = some (.iload_n 2, 1, (0, 0, 0, 0), 0) := rfl
theorem s56_5 {c : Nat → List AV → SS → Option Out} {l0 l1 l3 l4 l5 : Option AV} {x : Int32} {L2 : List (Nat × AV)} {St : List AV} {S : SS} : ev c 56 5 [l0, l1, some (aI x), l3, l4, l5] L2 St S = ev c 56 6 [l0, l1, some (aI x), l3, l4, l5] L2 (aI x :: St) S := ev_go i56_5 rfl
theorem i56_6 : insAt 56 6 = some (.iload_n 3, 1, (0, 0, 0, 0), 0) := rfl
theorem s56_6 {c : Nat → List AV → SS → Option Out} {l0 l1 l2 l4 l5 : Option AV} {x : Int32} {L2 : List (Nat × AV)} {St : List AV} {S : SS} : ev c 56 6 [l0, l1, l2, some (aI x), l4, l5] L2 St S = ev c 56 7 [l0, l1, l2, some (aI x), l4, l5] L2 (aI x :: St) S := ev_go i56_6 rfl
theorem i56_7 : insAt 56 7 = some (.invokevirtual 7, 3, (57, 3, 2, 11), 154) := rfl
theorem s56_7 {c : Nat → List AV → SS → Option Out} {l0 l1 l2 l3 l4 l5 : Option AV} {t0 t1 : AV} {a0 : Int32} {a1 : Int32} {a2 : Int32} {j t : Nat} {S : SS} : ev c 56 7 [l0, l1, l2, l3, l4, l5] [] [aI a2, aI a1, aI a0, aR (11, j, t), t0, t1] S = ckH [(0, 12, 17, 5, 0), (0, 12, 21, 5, 1)] 7 (c 57 [aR (11, j, t), aI a0, aI a1, aI a2] S) (fun v S' => ev c 56 10 [l0, l1, l2, l3, l4, l5] [] (v.toList ++ [t0, t1]) S') (fun a b S' => ev c 56 a ([l0, l1, l2, l3, l4, l5].set b none) [] [] S') := ev_callH rfl (fun E a b h9 => hnd_lt rfl h9) i56_7 rfl
theorem i56_10 : insAt 56 10 = some (.i2l, 1, (0, 0, 0, 0), 0) := rfl
theorem s56_10 {c : Nat → List AV → SS → Option Out} {l0 l1 l2 l3 l4 l5 : Option AV} {x : Int32} {L2 : List (Nat × AV)} {St : List AV} {S : SS} : ev c 56 10 [l0, l1, l2, l3, l4, l5] L2 (aI x :: St) S = ev c 56 11 [l0, l1, l2, l3, l4, l5] L2 (aL x.toInt64 :: St) S := ev_go i56_10 rfl
theorem i56_11 : insAt 56 11 = some (.lastore, 1, (0, 0, 0, 0), 0) := rfl
theorem s56_11 {c : Nat → List AV → SS → Option Out} {l0 l1 l2 l3 l4 l5 : Option AV} {x : Int64} {i : Int32} {o : OId} {L2 : List (Nat × AV)} {St : List AV} {S : SS} : ev c 56 11 [l0, l1, l2, l3, l4, l5] L2 (aL x :: aI i :: aR o :: St) S = kJ o i (ev c 56 12 [l0, l1, l2, l3, l4, l5] L2 St (S.1, setV S.2.1 o i.toNatClampNeg (aL x), S.2.2)) := ev_lastore i56_11
theorem i56_12 : insAt 56 12 = some (.goto 11, 3, (0, 0, 0, 0), 0) := rfl
theorem s56_12 {c : Nat → List AV → SS → Option Out} {l0 l1 l2 l3 l4 l5 : Option AV} {L2 : List (Nat × AV)} {St : List AV} {S : SS} : ev c 56 12 [l0, l1, l2, l3, l4, l5] L2 St S = ev c 56 23 [l0, l1, l2, l3, l4, l5] L2 St S := ev_go i56_12 rfl
theorem i56_17 : insAt 56 17 = some (.iconst 1, 1, (0, 0, 0, 0), 0) := rfl
theorem s56_17 {c : Nat → List AV → SS → Option Out} {l0 l1 l2 l3 l4 l5 : Option AV} {L2 : List (Nat × AV)} {St : List AV} {S : SS} : ev c 56 17 [l0, l1, l2, l3, l4, l5] L2 St S = ev c 56 18 [l0, l1, l2, l3, l4, l5] L2 (aI 1 :: St) S := ev_go i56_17 rfl
theorem i56_18 : insAt 56 18 = some (.ireturn, 1, (0, 0, 0, 0), 0) := rfl
theorem s56_18 {c : Nat → List AV → SS → Option Out} {l0 l1 l2 l3 l4 l5 : Option AV} {x : Int32} {L2 : List (Nat × AV)} {S : SS} : ev c 56 18 [l0, l1, l2, l3, l4, l5] L2 [aI x] S = some (.inl (some (aI x)), S) := ev_end i56_18 rfl
theorem i56_21 : insAt 56 21 = some (.iconst 2, 1, (0, 0, 0, 0), 0) := rfl
theorem s56_21 {c : Nat → List AV → SS → Option Out} {l0 l1 l2 l3 l4 l5 : Option AV} {L2 : List (Nat × AV)} {St : List AV} {S : SS} : ev c 56 21 [l0, l1, l2, l3, l4, l5] L2 St S = ev c 56 22 [l0, l1, l2, l3, l4, l5] L2 (aI 2 :: St) S := ev_go i56_21 rfl
theorem i56_22 : insAt 56 22 = some (.ireturn, 1, (0, 0, 0, 0), 0) := rfl
theorem s56_22 {c : Nat → List AV → SS → Option Out} {l0 l1 l2 l3 l4 l5 : Option AV} {x : Int32} {L2 : List (Nat × AV)} {S : SS} : ev c 56 22 [l0, l1, l2, l3, l4, l5] L2 [aI x] S = some (.inl (some (aI x)), S) := ev_end i56_22 rfl
theorem i56_23 : insAt 56 23 = some (.iconst 0, 1, (0, 0, 0, 0), 0) := rfl
theorem s56_23 {c : Nat → List AV → SS → Option Out} {l0 l1 l2 l3 l4 l5 : Option AV} {L2 : List (Nat × AV)} {St : List AV} {S : SS} : ev c 56 23 [l0, l1, l2, l3, l4, l5] L2 St S = ev c 56 24 [l0, l1, l2, l3, l4, l5] L2 (aI 0 :: St) S := ev_go i56_23 rfl
theorem i56_24 : insAt 56 24 = some (.ireturn, 1, (0, 0, 0, 0), 0) := rfl
theorem s56_24 {c : Nat → List AV → SS → Option Out} {l0 l1 l2 l3 l4 l5 : Option AV} {x : Int32} {L2 : List (Nat × AV)} {S : SS} : ev c 56 24 [l0, l1, l2, l3, l4, l5] L2 [aI x] S = some (.inl (some (aI x)), S) := ev_end i56_24 rfl
theorem m56 {d : Nat} {a0 : OId} {a1 : Int32} {a2 : Int32} {a3 : Int32} {a4 : OId} {S : SS} : evm (d + 1) 56 [aR a0, aI a1, aI a2, aI a3, aR a4] S = ev (evm d) 56 0 [some (aR a0), some (aI a1), some (aI a2), some (aI a3), some (aR a4), none] [] [] S := evm_s (n := 6) rfl (Nat.le_of_ble_eq_true rfl) rfl rfl
/-! FrequencyOfficeLaw.license(LFrequencyOffice;III[J)I -/
theorem i61_0 : insAt 61 0 = some (.aload 4, 2, (0, 0, 0, 0), 0) := rfl
theorem s61_0 {c : Nat → List AV → SS → Option Out} {l0 l1 l2 l3 l5 : Option AV} {o : OId} {L2 : List (Nat × AV)} {St : List AV} {S : SS} : ev c 61 0 [l0, l1, l2, l3, some (aR o), l5] L2 St S = ev c 61 2 [l0, l1, l2, l3, some (aR o), l5] L2 (aR o :: St) S := ev_go i61_0 rfl
theorem i61_2 : insAt 61 2 = some (.iconst 0, 1, (0, 0, 0, 0), 0) := rfl
theorem s61_2 {c : Nat → List AV → SS → Option Out} {l0 l1 l2 l3 l4 l5 : Option AV} {L2 : List (Nat × AV)} {St : List AV} {S : SS} : ev c 61 2 [l0, l1, l2, l3, l4, l5] L2 St S = ev c 61 3 [l0, l1, l2, l3, l4, l5] L2 (aI 0 :: St) S := ev_go i61_2 rfl
theorem i61_3 : insAt 61 3 = some (.aload_n 0, 1, (0, 0, 0, 0), 0) := rfl
theorem s61_3 {c : Nat → List AV → SS → Option Out} {l1 l2 l3 l4 l5 : Option AV} {o : OId} {L2 : List (Nat × AV)} {St : List AV} {S : SS} : ev c 61 3 [some (aR o), l1, l2, l3, l4, l5] L2 St S = ev c 61 4 [some (aR o), l1, l2, l3, l4, l5] L2 (aR o :: St) S := ev_go i61_3 rfl
theorem i61_4 : insAt 61 4 = some (.iload_n 1, 1, (0, 0, 0, 0), 0) := rfl
theorem s61_4 {c : Nat → List AV → SS → Option Out} {l0 l2 l3 l4 l5 : Option AV} {x : Int32} {L2 : List (Nat × AV)} {St : List AV} {S : SS} : ev c 61 4 [l0, some (aI x), l2, l3, l4, l5] L2 St S = ev c 61 5 [l0, some (aI x), l2, l3, l4, l5] L2 (aI x :: St) S := ev_go i61_4 rfl
theorem i61_5 : insAt 61 5 = some (.iload_n 2, 1, (0, 0, 0, 0), 0) := rfl
theorem s61_5 {c : Nat → List AV → SS → Option Out} {l0 l1 l3 l4 l5 : Option AV} {x : Int32} {L2 : List (Nat × AV)} {St : List AV} {S : SS} : ev c 61 5 [l0, l1, some (aI x), l3, l4, l5] L2 St S = ev c 61 6 [l0, l1, some (aI x), l3, l4, l5] L2 (aI x :: St) S := ev_go i61_5 rfl
theorem i61_6 : insAt 61 6 = some (.iload_n 3, 1, (0, 0, 0, 0), 0) := rfl
theorem s61_6 {c : Nat → List AV → SS → Option Out} {l0 l1 l2 l4 l5 : Option AV} {x : Int32} {L2 : List (Nat × AV)} {St : List AV} {S : SS} : ev c 61 6 [l0, l1, l2, some (aI x), l4, l5] L2 St S = ev c 61 7 [l0, l1, l2, some (aI x), l4, l5] L2 (aI x :: St) S := ev_go i61_6 rfl
theorem i61_7 : insAt 61 7 = some (.invokevirtual 17, 3, (62, 3, 2, 11), 162) := rfl
theorem s61_7 {c : Nat → List AV → SS → Option Out} {l0 l1 l2 l3 l4 l5 : Option AV} {t0 t1 : AV} {a0 : Int32} {a1 : Int32} {a2 : Int32} {j t : Nat} {S : SS} : ev c 61 7 [l0, l1, l2, l3, l4, l5] [] [aI a2, aI a1, aI a0, aR (11, j, t), t0, t1] S = ckH [(0, 12, 17, 5, 0), (0, 12, 21, 5, 1), (0, 12, 25, 5, 2)] 7 (c 62 [aR (11, j, t), aI a0, aI a1, aI a2] S) (fun v S' => ev c 61 10 [l0, l1, l2, l3, l4, l5] [] (v.toList ++ [t0, t1]) S') (fun a b S' => ev c 61 a ([l0, l1, l2, l3, l4, l5].set b none) [] [] S') := ev_callH rfl (fun E a b h9 => hnd_lt rfl h9) i61_7 rfl
theorem i61_10 : insAt 61 10 = some (.i2l, 1, (0, 0, 0, 0), 0) := rfl
theorem s61_10 {c : Nat → List AV → SS → Option Out} {l0 l1 l2 l3 l4 l5 : Option AV} {x : Int32} {L2 : List (Nat × AV)} {St : List AV} {S : SS} : ev c 61 10 [l0, l1, l2, l3, l4, l5] L2 (aI x :: St) S = ev c 61 11 [l0, l1, l2, l3, l4, l5] L2 (aL x.toInt64 :: St) S := ev_go i61_10 rfl
theorem i61_11 : insAt 61 11 = some (.lastore, 1, (0, 0, 0, 0), 0) := rfl
theorem s61_11 {c : Nat → List AV → SS → Option Out} {l0 l1 l2 l3 l4 l5 : Option AV} {x : Int64} {i : Int32} {o : OId} {L2 : List (Nat × AV)} {St : List AV} {S : SS} : ev c 61 11 [l0, l1, l2, l3, l4, l5] L2 (aL x :: aI i :: aR o :: St) S = kJ o i (ev c 61 12 [l0, l1, l2, l3, l4, l5] L2 St (S.1, setV S.2.1 o i.toNatClampNeg (aL x), S.2.2)) := ev_lastore i61_11
theorem i61_12 : insAt 61 12 = some (.goto 15, 3, (0, 0, 0, 0), 0) := rfl
theorem s61_12 {c : Nat → List AV → SS → Option Out} {l0 l1 l2 l3 l4 l5 : Option AV} {L2 : List (Nat × AV)} {St : List AV} {S : SS} : ev c 61 12 [l0, l1, l2, l3, l4, l5] L2 St S = ev c 61 27 [l0, l1, l2, l3, l4, l5] L2 St S := ev_go i61_12 rfl
theorem i61_17 : insAt 61 17 = some (.iconst 1, 1, (0, 0, 0, 0), 0) := rfl
theorem s61_17 {c : Nat → List AV → SS → Option Out} {l0 l1 l2 l3 l4 l5 : Option AV} {L2 : List (Nat × AV)} {St : List AV} {S : SS} : ev c 61 17 [l0, l1, l2, l3, l4, l5] L2 St S = ev c 61 18 [l0, l1, l2, l3, l4, l5] L2 (aI 1 :: St) S := ev_go i61_17 rfl
theorem i61_18 : insAt 61 18 = some (.ireturn, 1, (0, 0, 0, 0), 0) := rfl
theorem s61_18 {c : Nat → List AV → SS → Option Out} {l0 l1 l2 l3 l4 l5 : Option AV} {x : Int32} {L2 : List (Nat × AV)} {S : SS} : ev c 61 18 [l0, l1, l2, l3, l4, l5] L2 [aI x] S = some (.inl (some (aI x)), S) := ev_end i61_18 rfl
theorem i61_21 : insAt 61 21 = some (.iconst 2, 1, (0, 0, 0, 0), 0) := rfl
theorem s61_21 {c : Nat → List AV → SS → Option Out} {l0 l1 l2 l3 l4 l5 : Option AV} {L2 : List (Nat × AV)} {St : List AV} {S : SS} : ev c 61 21 [l0, l1, l2, l3, l4, l5] L2 St S = ev c 61 22 [l0, l1, l2, l3, l4, l5] L2 (aI 2 :: St) S := ev_go i61_21 rfl
theorem i61_22 : insAt 61 22 = some (.ireturn, 1, (0, 0, 0, 0), 0) := rfl
theorem s61_22 {c : Nat → List AV → SS → Option Out} {l0 l1 l2 l3 l4 l5 : Option AV} {x : Int32} {L2 : List (Nat × AV)} {S : SS} : ev c 61 22 [l0, l1, l2, l3, l4, l5] L2 [aI x] S = some (.inl (some (aI x)), S) := ev_end i61_22 rfl
theorem i61_25 : insAt 61 25 = some (.iconst 3, 1, (0, 0, 0, 0), 0) := rfl
theorem s61_25 {c : Nat → List AV → SS → Option Out} {l0 l1 l2 l3 l4 l5 : Option AV} {L2 : List (Nat × AV)} {St : List AV} {S : SS} : ev c 61 25 [l0, l1, l2, l3, l4, l5] L2 St S = ev c 61 26 [l0, l1, l2, l3, l4, l5] L2 (aI 3 :: St) S := ev_go i61_25 rfl
theorem i61_26 : insAt 61 26 = some (.ireturn, 1, (0, 0, 0, 0), 0) := rfl
theorem s61_26 {c : Nat → List AV → SS → Option Out} {l0 l1 l2 l3 l4 l5 : Option AV} {x : Int32} {L2 : List (Nat × AV)} {S : SS} : ev c 61 26 [l0, l1, l2, l3, l4, l5] L2 [aI x] S = some (.inl (some (aI x)), S) := ev_end i61_26 rfl
theorem i61_27 : insAt 61 27 = some (.iconst 0, 1, (0, 0, 0, 0), 0) := rfl
theorem s61_27 {c : Nat → List AV → SS → Option Out} {l0 l1 l2 l3 l4 l5 : Option AV} {L2 : List (Nat × AV)} {St : List AV} {S : SS} : ev c 61 27 [l0, l1, l2, l3, l4, l5] L2 St S = ev c 61 28 [l0, l1, l2, l3, l4, l5] L2 (aI 0 :: St) S := ev_go i61_27 rfl
theorem i61_28 : insAt 61 28 = some (.ireturn, 1, (0, 0, 0, 0), 0) := rfl
theorem s61_28 {c : Nat → List AV → SS → Option Out} {l0 l1 l2 l3 l4 l5 : Option AV} {x : Int32} {L2 : List (Nat × AV)} {S : SS} : ev c 61 28 [l0, l1, l2, l3, l4, l5] L2 [aI x] S = some (.inl (some (aI x)), S) := ev_end i61_28 rfl
theorem m61 {d : Nat} {a0 : OId} {a1 : Int32} {a2 : Int32} {a3 : Int32} {a4 : OId} {S : SS} : evm (d + 1) 61 [aR a0, aI a1, aI a2, aI a3, aR a4] S = ev (evm d) 61 0 [some (aR a0), some (aI a1), some (aI a2), some (aI a3), some (aR a4), none] [] [] S := evm_s (n := 6) rfl (Nat.le_of_ble_eq_true rfl) rfl rfl
/-! FrequencyOfficeLaw.startTrial(LFrequencyOffice;III[J)I -/
theorem i83_0 : insAt 83 0 = some (.aload 4, 2, (0, 0, 0, 0), 0) := rfl
theorem s83_0 {c : Nat → List AV → SS → Option Out} {l0 l1 l2 l3 l5 : Option AV} {o : OId} {L2 : List (Nat × AV)} {St : List AV} {S : SS} : ev c 83 0 [l0, l1, l2, l3, some (aR o), l5] L2 St S = ev c 83 2 [l0, l1, l2, l3, some (aR o), l5] L2 (aR o :: St) S := ev_go i83_0 rfl
theorem i83_2 : insAt 83 2 = some (.iconst 0, 1, (0, 0, 0, 0), 0) := rfl
theorem s83_2 {c : Nat → List AV → SS → Option Out} {l0 l1 l2 l3 l4 l5 : Option AV} {L2 : List (Nat × AV)} {St : List AV} {S : SS} : ev c 83 2 [l0, l1, l2, l3, l4, l5] L2 St S = ev c 83 3 [l0, l1, l2, l3, l4, l5] L2 (aI 0 :: St) S := ev_go i83_2 rfl
theorem i83_3 : insAt 83 3 = some (.aload_n 0, 1, (0, 0, 0, 0), 0) := rfl
theorem s83_3 {c : Nat → List AV → SS → Option Out} {l1 l2 l3 l4 l5 : Option AV} {o : OId} {L2 : List (Nat × AV)} {St : List AV} {S : SS} : ev c 83 3 [some (aR o), l1, l2, l3, l4, l5] L2 St S = ev c 83 4 [some (aR o), l1, l2, l3, l4, l5] L2 (aR o :: St) S := ev_go i83_3 rfl
theorem i83_4 : insAt 83 4 = some (.iload_n 1, 1, (0, 0, 0, 0), 0) := rfl
theorem s83_4 {c : Nat → List AV → SS → Option Out} {l0 l2 l3 l4 l5 : Option AV} {x : Int32} {L2 : List (Nat × AV)} {St : List AV} {S : SS} : ev c 83 4 [l0, some (aI x), l2, l3, l4, l5] L2 St S = ev c 83 5 [l0, some (aI x), l2, l3, l4, l5] L2 (aI x :: St) S := ev_go i83_4 rfl
theorem i83_5 : insAt 83 5 = some (.iload_n 2, 1, (0, 0, 0, 0), 0) := rfl
theorem s83_5 {c : Nat → List AV → SS → Option Out} {l0 l1 l3 l4 l5 : Option AV} {x : Int32} {L2 : List (Nat × AV)} {St : List AV} {S : SS} : ev c 83 5 [l0, l1, some (aI x), l3, l4, l5] L2 St S = ev c 83 6 [l0, l1, some (aI x), l3, l4, l5] L2 (aI x :: St) S := ev_go i83_5 rfl
theorem i83_6 : insAt 83 6 = some (.iload_n 3, 1, (0, 0, 0, 0), 0) := rfl
theorem s83_6 {c : Nat → List AV → SS → Option Out} {l0 l1 l2 l4 l5 : Option AV} {x : Int32} {L2 : List (Nat × AV)} {St : List AV} {S : SS} : ev c 83 6 [l0, l1, l2, some (aI x), l4, l5] L2 St S = ev c 83 7 [l0, l1, l2, some (aI x), l4, l5] L2 (aI x :: St) S := ev_go i83_6 rfl
theorem i83_7 : insAt 83 7 = some (.invokevirtual 22, 3, (84, 3, 2, 11), 214) := rfl
theorem s83_7 {c : Nat → List AV → SS → Option Out} {l0 l1 l2 l3 l4 l5 : Option AV} {t0 t1 : AV} {a0 : Int32} {a1 : Int32} {a2 : Int32} {j t : Nat} {S : SS} : ev c 83 7 [l0, l1, l2, l3, l4, l5] [] [aI a2, aI a1, aI a0, aR (11, j, t), t0, t1] S = ckH [(0, 12, 17, 5, 0), (0, 12, 21, 5, 1), (0, 12, 25, 5, 2)] 7 (c 84 [aR (11, j, t), aI a0, aI a1, aI a2] S) (fun v S' => ev c 83 10 [l0, l1, l2, l3, l4, l5] [] (v.toList ++ [t0, t1]) S') (fun a b S' => ev c 83 a ([l0, l1, l2, l3, l4, l5].set b none) [] [] S') := ev_callH rfl (fun E a b h9 => hnd_lt rfl h9) i83_7 rfl
theorem i83_10 : insAt 83 10 = some (.i2l, 1, (0, 0, 0, 0), 0) := rfl
theorem s83_10 {c : Nat → List AV → SS → Option Out} {l0 l1 l2 l3 l4 l5 : Option AV} {x : Int32} {L2 : List (Nat × AV)} {St : List AV} {S : SS} : ev c 83 10 [l0, l1, l2, l3, l4, l5] L2 (aI x :: St) S = ev c 83 11 [l0, l1, l2, l3, l4, l5] L2 (aL x.toInt64 :: St) S := ev_go i83_10 rfl
theorem i83_11 : insAt 83 11 = some (.lastore, 1, (0, 0, 0, 0), 0) := rfl
theorem s83_11 {c : Nat → List AV → SS → Option Out} {l0 l1 l2 l3 l4 l5 : Option AV} {x : Int64} {i : Int32} {o : OId} {L2 : List (Nat × AV)} {St : List AV} {S : SS} : ev c 83 11 [l0, l1, l2, l3, l4, l5] L2 (aL x :: aI i :: aR o :: St) S = kJ o i (ev c 83 12 [l0, l1, l2, l3, l4, l5] L2 St (S.1, setV S.2.1 o i.toNatClampNeg (aL x), S.2.2)) := ev_lastore i83_11
theorem i83_12 : insAt 83 12 = some (.goto 15, 3, (0, 0, 0, 0), 0) := rfl
theorem s83_12 {c : Nat → List AV → SS → Option Out} {l0 l1 l2 l3 l4 l5 : Option AV} {L2 : List (Nat × AV)} {St : List AV} {S : SS} : ev c 83 12 [l0, l1, l2, l3, l4, l5] L2 St S = ev c 83 27 [l0, l1, l2, l3, l4, l5] L2 St S := ev_go i83_12 rfl
theorem i83_17 : insAt 83 17 = some (.iconst 1, 1, (0, 0, 0, 0), 0) := rfl
theorem s83_17 {c : Nat → List AV → SS → Option Out} {l0 l1 l2 l3 l4 l5 : Option AV} {L2 : List (Nat × AV)} {St : List AV} {S : SS} : ev c 83 17 [l0, l1, l2, l3, l4, l5] L2 St S = ev c 83 18 [l0, l1, l2, l3, l4, l5] L2 (aI 1 :: St) S := ev_go i83_17 rfl
theorem i83_18 : insAt 83 18 = some (.ireturn, 1, (0, 0, 0, 0), 0) := rfl
theorem s83_18 {c : Nat → List AV → SS → Option Out} {l0 l1 l2 l3 l4 l5 : Option AV} {x : Int32} {L2 : List (Nat × AV)} {S : SS} : ev c 83 18 [l0, l1, l2, l3, l4, l5] L2 [aI x] S = some (.inl (some (aI x)), S) := ev_end i83_18 rfl
theorem i83_21 : insAt 83 21 = some (.iconst 2, 1, (0, 0, 0, 0), 0) := rfl
theorem s83_21 {c : Nat → List AV → SS → Option Out} {l0 l1 l2 l3 l4 l5 : Option AV} {L2 : List (Nat × AV)} {St : List AV} {S : SS} : ev c 83 21 [l0, l1, l2, l3, l4, l5] L2 St S = ev c 83 22 [l0, l1, l2, l3, l4, l5] L2 (aI 2 :: St) S := ev_go i83_21 rfl
theorem i83_22 : insAt 83 22 = some (.ireturn, 1, (0, 0, 0, 0), 0) := rfl
theorem s83_22 {c : Nat → List AV → SS → Option Out} {l0 l1 l2 l3 l4 l5 : Option AV} {x : Int32} {L2 : List (Nat × AV)} {S : SS} : ev c 83 22 [l0, l1, l2, l3, l4, l5] L2 [aI x] S = some (.inl (some (aI x)), S) := ev_end i83_22 rfl
theorem i83_25 : insAt 83 25 = some (.iconst 3, 1, (0, 0, 0, 0), 0) := rfl
theorem s83_25 {c : Nat → List AV → SS → Option Out} {l0 l1 l2 l3 l4 l5 : Option AV} {L2 : List (Nat × AV)} {St : List AV} {S : SS} : ev c 83 25 [l0, l1, l2, l3, l4, l5] L2 St S = ev c 83 26 [l0, l1, l2, l3, l4, l5] L2 (aI 3 :: St) S := ev_go i83_25 rfl
theorem i83_26 : insAt 83 26 = some (.ireturn, 1, (0, 0, 0, 0), 0) := rfl
theorem s83_26 {c : Nat → List AV → SS → Option Out} {l0 l1 l2 l3 l4 l5 : Option AV} {x : Int32} {L2 : List (Nat × AV)} {S : SS} : ev c 83 26 [l0, l1, l2, l3, l4, l5] L2 [aI x] S = some (.inl (some (aI x)), S) := ev_end i83_26 rfl
theorem i83_27 : insAt 83 27 = some (.iconst 0, 1, (0, 0, 0, 0), 0) := rfl
theorem s83_27 {c : Nat → List AV → SS → Option Out} {l0 l1 l2 l3 l4 l5 : Option AV} {L2 : List (Nat × AV)} {St : List AV} {S : SS} : ev c 83 27 [l0, l1, l2, l3, l4, l5] L2 St S = ev c 83 28 [l0, l1, l2, l3, l4, l5] L2 (aI 0 :: St) S := ev_go i83_27 rfl
theorem i83_28 : insAt 83 28 = some (.ireturn, 1, (0, 0, 0, 0), 0) := rfl
theorem s83_28 {c : Nat → List AV → SS → Option Out} {l0 l1 l2 l3 l4 l5 : Option AV} {x : Int32} {L2 : List (Nat × AV)} {S : SS} : ev c 83 28 [l0, l1, l2, l3, l4, l5] L2 [aI x] S = some (.inl (some (aI x)), S) := ev_end i83_28 rfl
theorem m83 {d : Nat} {a0 : OId} {a1 : Int32} {a2 : Int32} {a3 : Int32} {a4 : OId} {S : SS} : evm (d + 1) 83 [aR a0, aI a1, aI a2, aI a3, aR a4] S = ev (evm d) 83 0 [some (aR a0), some (aI a1), some (aI a2), some (aI a3), some (aR a4), none] [] [] S := evm_s (n := 6) rfl (Nat.le_of_ble_eq_true rfl) rfl rfl
/-! FrequencyOfficeLaw.confirm(LFrequencyOffice;II[J)I -/
theorem i88_0 : insAt 88 0 = some (.aload_n 3, 1, (0, 0, 0, 0), 0) := rfl
theorem s88_0 {c : Nat → List AV → SS → Option Out} {l0 l1 l2 l4 : Option AV} {o : OId} {L2 : List (Nat × AV)} {St : List AV} {S : SS} : ev c 88 0 [l0, l1, l2, some (aR o), l4] L2 St S = ev c 88 1 [l0, l1, l2, some (aR o), l4] L2 (aR o :: St) S := ev_go i88_0 rfl
theorem i88_1 : insAt 88 1 = some (.iconst 0, 1, (0, 0, 0, 0), 0) := rfl
theorem s88_1 {c : Nat → List AV → SS → Option Out} {l0 l1 l2 l3 l4 : Option AV} {L2 : List (Nat × AV)} {St : List AV} {S : SS} : ev c 88 1 [l0, l1, l2, l3, l4] L2 St S = ev c 88 2 [l0, l1, l2, l3, l4] L2 (aI 0 :: St) S := ev_go i88_1 rfl
theorem i88_2 : insAt 88 2 = some (.aload_n 0, 1, (0, 0, 0, 0), 0) := rfl
theorem s88_2 {c : Nat → List AV → SS → Option Out} {l1 l2 l3 l4 : Option AV} {o : OId} {L2 : List (Nat × AV)} {St : List AV} {S : SS} : ev c 88 2 [some (aR o), l1, l2, l3, l4] L2 St S = ev c 88 3 [some (aR o), l1, l2, l3, l4] L2 (aR o :: St) S := ev_go i88_2 rfl
theorem i88_3 : insAt 88 3 = some (.iload_n 1, 1, (0, 0, 0, 0), 0) := rfl
theorem s88_3 {c : Nat → List AV → SS → Option Out} {l0 l2 l3 l4 : Option AV} {x : Int32} {L2 : List (Nat × AV)} {St : List AV} {S : SS} : ev c 88 3 [l0, some (aI x), l2, l3, l4] L2 St S = ev c 88 4 [l0, some (aI x), l2, l3, l4] L2 (aI x :: St) S := ev_go i88_3 rfl
theorem i88_4 : insAt 88 4 = some (.iload_n 2, 1, (0, 0, 0, 0), 0) := rfl
theorem s88_4 {c : Nat → List AV → SS → Option Out} {l0 l1 l3 l4 : Option AV} {x : Int32} {L2 : List (Nat × AV)} {St : List AV} {S : SS} : ev c 88 4 [l0, l1, some (aI x), l3, l4] L2 St S = ev c 88 5 [l0, l1, some (aI x), l3, l4] L2 (aI x :: St) S := ev_go i88_4 rfl
theorem i88_5 : insAt 88 5 = some (.invokevirtual 25, 3, (89, 2, 2, 11), 219) := rfl
theorem s88_5 {c : Nat → List AV → SS → Option Out} {l0 l1 l2 l3 l4 : Option AV} {t0 t1 : AV} {a0 : Int32} {a1 : Int32} {j t : Nat} {S : SS} : ev c 88 5 [l0, l1, l2, l3, l4] [] [aI a1, aI a0, aR (11, j, t), t0, t1] S = ckH [(0, 10, 15, 4, 3), (0, 10, 19, 4, 0), (0, 10, 23, 4, 1)] 5 (c 89 [aR (11, j, t), aI a0, aI a1] S) (fun v S' => ev c 88 8 [l0, l1, l2, l3, l4] [] (v.toList ++ [t0, t1]) S') (fun a b S' => ev c 88 a ([l0, l1, l2, l3, l4].set b none) [] [] S') := ev_callH rfl (fun E a b h9 => hnd_lt rfl h9) i88_5 rfl
theorem i88_8 : insAt 88 8 = some (.i2l, 1, (0, 0, 0, 0), 0) := rfl
theorem s88_8 {c : Nat → List AV → SS → Option Out} {l0 l1 l2 l3 l4 : Option AV} {x : Int32} {L2 : List (Nat × AV)} {St : List AV} {S : SS} : ev c 88 8 [l0, l1, l2, l3, l4] L2 (aI x :: St) S = ev c 88 9 [l0, l1, l2, l3, l4] L2 (aL x.toInt64 :: St) S := ev_go i88_8 rfl
theorem i88_9 : insAt 88 9 = some (.lastore, 1, (0, 0, 0, 0), 0) := rfl
theorem s88_9 {c : Nat → List AV → SS → Option Out} {l0 l1 l2 l3 l4 : Option AV} {x : Int64} {i : Int32} {o : OId} {L2 : List (Nat × AV)} {St : List AV} {S : SS} : ev c 88 9 [l0, l1, l2, l3, l4] L2 (aL x :: aI i :: aR o :: St) S = kJ o i (ev c 88 10 [l0, l1, l2, l3, l4] L2 St (S.1, setV S.2.1 o i.toNatClampNeg (aL x), S.2.2)) := ev_lastore i88_9
theorem i88_10 : insAt 88 10 = some (.goto 15, 3, (0, 0, 0, 0), 0) := rfl
theorem s88_10 {c : Nat → List AV → SS → Option Out} {l0 l1 l2 l3 l4 : Option AV} {L2 : List (Nat × AV)} {St : List AV} {S : SS} : ev c 88 10 [l0, l1, l2, l3, l4] L2 St S = ev c 88 25 [l0, l1, l2, l3, l4] L2 St S := ev_go i88_10 rfl
theorem i88_15 : insAt 88 15 = some (.iconst 1, 1, (0, 0, 0, 0), 0) := rfl
theorem s88_15 {c : Nat → List AV → SS → Option Out} {l0 l1 l2 l3 l4 : Option AV} {L2 : List (Nat × AV)} {St : List AV} {S : SS} : ev c 88 15 [l0, l1, l2, l3, l4] L2 St S = ev c 88 16 [l0, l1, l2, l3, l4] L2 (aI 1 :: St) S := ev_go i88_15 rfl
theorem i88_16 : insAt 88 16 = some (.ireturn, 1, (0, 0, 0, 0), 0) := rfl
theorem s88_16 {c : Nat → List AV → SS → Option Out} {l0 l1 l2 l3 l4 : Option AV} {x : Int32} {L2 : List (Nat × AV)} {S : SS} : ev c 88 16 [l0, l1, l2, l3, l4] L2 [aI x] S = some (.inl (some (aI x)), S) := ev_end i88_16 rfl
theorem i88_19 : insAt 88 19 = some (.iconst 2, 1, (0, 0, 0, 0), 0) := rfl
theorem s88_19 {c : Nat → List AV → SS → Option Out} {l0 l1 l2 l3 l4 : Option AV} {L2 : List (Nat × AV)} {St : List AV} {S : SS} : ev c 88 19 [l0, l1, l2, l3, l4] L2 St S = ev c 88 20 [l0, l1, l2, l3, l4] L2 (aI 2 :: St) S := ev_go i88_19 rfl
theorem i88_20 : insAt 88 20 = some (.ireturn, 1, (0, 0, 0, 0), 0) := rfl
theorem s88_20 {c : Nat → List AV → SS → Option Out} {l0 l1 l2 l3 l4 : Option AV} {x : Int32} {L2 : List (Nat × AV)} {S : SS} : ev c 88 20 [l0, l1, l2, l3, l4] L2 [aI x] S = some (.inl (some (aI x)), S) := ev_end i88_20 rfl
theorem i88_23 : insAt 88 23 = some (.iconst 3, 1, (0, 0, 0, 0), 0) := rfl
theorem s88_23 {c : Nat → List AV → SS → Option Out} {l0 l1 l2 l3 l4 : Option AV} {L2 : List (Nat × AV)} {St : List AV} {S : SS} : ev c 88 23 [l0, l1, l2, l3, l4] L2 St S = ev c 88 24 [l0, l1, l2, l3, l4] L2 (aI 3 :: St) S := ev_go i88_23 rfl
theorem i88_24 : insAt 88 24 = some (.ireturn, 1, (0, 0, 0, 0), 0) := rfl
theorem s88_24 {c : Nat → List AV → SS → Option Out} {l0 l1 l2 l3 l4 : Option AV} {x : Int32} {L2 : List (Nat × AV)} {S : SS} : ev c 88 24 [l0, l1, l2, l3, l4] L2 [aI x] S = some (.inl (some (aI x)), S) := ev_end i88_24 rfl
theorem i88_25 : insAt 88 25 = some (.iconst 0, 1, (0, 0, 0, 0), 0) := rfl
theorem s88_25 {c : Nat → List AV → SS → Option Out} {l0 l1 l2 l3 l4 : Option AV} {L2 : List (Nat × AV)} {St : List AV} {S : SS} : ev c 88 25 [l0, l1, l2, l3, l4] L2 St S = ev c 88 26 [l0, l1, l2, l3, l4] L2 (aI 0 :: St) S := ev_go i88_25 rfl
theorem i88_26 : insAt 88 26 = some (.ireturn, 1, (0, 0, 0, 0), 0) := rfl
theorem s88_26 {c : Nat → List AV → SS → Option Out} {l0 l1 l2 l3 l4 : Option AV} {x : Int32} {L2 : List (Nat × AV)} {S : SS} : ev c 88 26 [l0, l1, l2, l3, l4] L2 [aI x] S = some (.inl (some (aI x)), S) := ev_end i88_26 rfl
theorem m88 {d : Nat} {a0 : OId} {a1 : Int32} {a2 : Int32} {a3 : OId} {S : SS} : evm (d + 1) 88 [aR a0, aI a1, aI a2, aR a3] S = ev (evm d) 88 0 [some (aR a0), some (aI a1), some (aI a2), some (aR a3), none] [] [] S := evm_s (n := 5) rfl (Nat.le_of_ble_eq_true rfl) rfl rfl
/-! FrequencyOfficeLaw.renew(LFrequencyOffice;II[J)I -/
theorem i91_0 : insAt 91 0 = some (.aload_n 3, 1, (0, 0, 0, 0), 0) := rfl
theorem s91_0 {c : Nat → List AV → SS → Option Out} {l0 l1 l2 l4 : Option AV} {o : OId} {L2 : List (Nat × AV)} {St : List AV} {S : SS} : ev c 91 0 [l0, l1, l2, some (aR o), l4] L2 St S = ev c 91 1 [l0, l1, l2, some (aR o), l4] L2 (aR o :: St) S := ev_go i91_0 rfl
theorem i91_1 : insAt 91 1 = some (.iconst 0, 1, (0, 0, 0, 0), 0) := rfl
theorem s91_1 {c : Nat → List AV → SS → Option Out} {l0 l1 l2 l3 l4 : Option AV} {L2 : List (Nat × AV)} {St : List AV} {S : SS} : ev c 91 1 [l0, l1, l2, l3, l4] L2 St S = ev c 91 2 [l0, l1, l2, l3, l4] L2 (aI 0 :: St) S := ev_go i91_1 rfl
theorem i91_2 : insAt 91 2 = some (.aload_n 0, 1, (0, 0, 0, 0), 0) := rfl
theorem s91_2 {c : Nat → List AV → SS → Option Out} {l1 l2 l3 l4 : Option AV} {o : OId} {L2 : List (Nat × AV)} {St : List AV} {S : SS} : ev c 91 2 [some (aR o), l1, l2, l3, l4] L2 St S = ev c 91 3 [some (aR o), l1, l2, l3, l4] L2 (aR o :: St) S := ev_go i91_2 rfl
theorem i91_3 : insAt 91 3 = some (.iload_n 1, 1, (0, 0, 0, 0), 0) := rfl
theorem s91_3 {c : Nat → List AV → SS → Option Out} {l0 l2 l3 l4 : Option AV} {x : Int32} {L2 : List (Nat × AV)} {St : List AV} {S : SS} : ev c 91 3 [l0, some (aI x), l2, l3, l4] L2 St S = ev c 91 4 [l0, some (aI x), l2, l3, l4] L2 (aI x :: St) S := ev_go i91_3 rfl
theorem i91_4 : insAt 91 4 = some (.iload_n 2, 1, (0, 0, 0, 0), 0) := rfl
theorem s91_4 {c : Nat → List AV → SS → Option Out} {l0 l1 l3 l4 : Option AV} {x : Int32} {L2 : List (Nat × AV)} {St : List AV} {S : SS} : ev c 91 4 [l0, l1, some (aI x), l3, l4] L2 St S = ev c 91 5 [l0, l1, some (aI x), l3, l4] L2 (aI x :: St) S := ev_go i91_4 rfl
theorem i91_5 : insAt 91 5 = some (.invokevirtual 31, 3, (92, 2, 2, 11), 222) := rfl
theorem s91_5 {c : Nat → List AV → SS → Option Out} {l0 l1 l2 l3 l4 : Option AV} {t0 t1 : AV} {a0 : Int32} {a1 : Int32} {j t : Nat} {S : SS} : ev c 91 5 [l0, l1, l2, l3, l4] [] [aI a1, aI a0, aR (11, j, t), t0, t1] S = ckH [(0, 10, 15, 4, 3), (0, 10, 19, 4, 0), (0, 10, 23, 4, 1)] 5 (c 92 [aR (11, j, t), aI a0, aI a1] S) (fun v S' => ev c 91 8 [l0, l1, l2, l3, l4] [] (v.toList ++ [t0, t1]) S') (fun a b S' => ev c 91 a ([l0, l1, l2, l3, l4].set b none) [] [] S') := ev_callH rfl (fun E a b h9 => hnd_lt rfl h9) i91_5 rfl
theorem i91_8 : insAt 91 8 = some (.i2l, 1, (0, 0, 0, 0), 0) := rfl
theorem s91_8 {c : Nat → List AV → SS → Option Out} {l0 l1 l2 l3 l4 : Option AV} {x : Int32} {L2 : List (Nat × AV)} {St : List AV} {S : SS} : ev c 91 8 [l0, l1, l2, l3, l4] L2 (aI x :: St) S = ev c 91 9 [l0, l1, l2, l3, l4] L2 (aL x.toInt64 :: St) S := ev_go i91_8 rfl
theorem i91_9 : insAt 91 9 = some (.lastore, 1, (0, 0, 0, 0), 0) := rfl
theorem s91_9 {c : Nat → List AV → SS → Option Out} {l0 l1 l2 l3 l4 : Option AV} {x : Int64} {i : Int32} {o : OId} {L2 : List (Nat × AV)} {St : List AV} {S : SS} : ev c 91 9 [l0, l1, l2, l3, l4] L2 (aL x :: aI i :: aR o :: St) S = kJ o i (ev c 91 10 [l0, l1, l2, l3, l4] L2 St (S.1, setV S.2.1 o i.toNatClampNeg (aL x), S.2.2)) := ev_lastore i91_9
theorem i91_10 : insAt 91 10 = some (.goto 15, 3, (0, 0, 0, 0), 0) := rfl
theorem s91_10 {c : Nat → List AV → SS → Option Out} {l0 l1 l2 l3 l4 : Option AV} {L2 : List (Nat × AV)} {St : List AV} {S : SS} : ev c 91 10 [l0, l1, l2, l3, l4] L2 St S = ev c 91 25 [l0, l1, l2, l3, l4] L2 St S := ev_go i91_10 rfl
theorem i91_15 : insAt 91 15 = some (.iconst 1, 1, (0, 0, 0, 0), 0) := rfl
theorem s91_15 {c : Nat → List AV → SS → Option Out} {l0 l1 l2 l3 l4 : Option AV} {L2 : List (Nat × AV)} {St : List AV} {S : SS} : ev c 91 15 [l0, l1, l2, l3, l4] L2 St S = ev c 91 16 [l0, l1, l2, l3, l4] L2 (aI 1 :: St) S := ev_go i91_15 rfl
theorem i91_16 : insAt 91 16 = some (.ireturn, 1, (0, 0, 0, 0), 0) := rfl
theorem s91_16 {c : Nat → List AV → SS → Option Out} {l0 l1 l2 l3 l4 : Option AV} {x : Int32} {L2 : List (Nat × AV)} {S : SS} : ev c 91 16 [l0, l1, l2, l3, l4] L2 [aI x] S = some (.inl (some (aI x)), S) := ev_end i91_16 rfl
theorem i91_19 : insAt 91 19 = some (.iconst 2, 1, (0, 0, 0, 0), 0) := rfl
theorem s91_19 {c : Nat → List AV → SS → Option Out} {l0 l1 l2 l3 l4 : Option AV} {L2 : List (Nat × AV)} {St : List AV} {S : SS} : ev c 91 19 [l0, l1, l2, l3, l4] L2 St S = ev c 91 20 [l0, l1, l2, l3, l4] L2 (aI 2 :: St) S := ev_go i91_19 rfl
theorem i91_20 : insAt 91 20 = some (.ireturn, 1, (0, 0, 0, 0), 0) := rfl
theorem s91_20 {c : Nat → List AV → SS → Option Out} {l0 l1 l2 l3 l4 : Option AV} {x : Int32} {L2 : List (Nat × AV)} {S : SS} : ev c 91 20 [l0, l1, l2, l3, l4] L2 [aI x] S = some (.inl (some (aI x)), S) := ev_end i91_20 rfl
theorem i91_23 : insAt 91 23 = some (.iconst 3, 1, (0, 0, 0, 0), 0) := rfl
theorem s91_23 {c : Nat → List AV → SS → Option Out} {l0 l1 l2 l3 l4 : Option AV} {L2 : List (Nat × AV)} {St : List AV} {S : SS} : ev c 91 23 [l0, l1, l2, l3, l4] L2 St S = ev c 91 24 [l0, l1, l2, l3, l4] L2 (aI 3 :: St) S := ev_go i91_23 rfl
theorem i91_24 : insAt 91 24 = some (.ireturn, 1, (0, 0, 0, 0), 0) := rfl
theorem s91_24 {c : Nat → List AV → SS → Option Out} {l0 l1 l2 l3 l4 : Option AV} {x : Int32} {L2 : List (Nat × AV)} {S : SS} : ev c 91 24 [l0, l1, l2, l3, l4] L2 [aI x] S = some (.inl (some (aI x)), S) := ev_end i91_24 rfl
theorem i91_25 : insAt 91 25 = some (.iconst 0, 1, (0, 0, 0, 0), 0) := rfl
theorem s91_25 {c : Nat → List AV → SS → Option Out} {l0 l1 l2 l3 l4 : Option AV} {L2 : List (Nat × AV)} {St : List AV} {S : SS} : ev c 91 25 [l0, l1, l2, l3, l4] L2 St S = ev c 91 26 [l0, l1, l2, l3, l4] L2 (aI 0 :: St) S := ev_go i91_25 rfl
theorem i91_26 : insAt 91 26 = some (.ireturn, 1, (0, 0, 0, 0), 0) := rfl
theorem s91_26 {c : Nat → List AV → SS → Option Out} {l0 l1 l2 l3 l4 : Option AV} {x : Int32} {L2 : List (Nat × AV)} {S : SS} : ev c 91 26 [l0, l1, l2, l3, l4] L2 [aI x] S = some (.inl (some (aI x)), S) := ev_end i91_26 rfl
theorem m91 {d : Nat} {a0 : OId} {a1 : Int32} {a2 : Int32} {a3 : OId} {S : SS} : evm (d + 1) 91 [aR a0, aI a1, aI a2, aR a3] S = ev (evm d) 91 0 [some (aR a0), some (aI a1), some (aI a2), some (aR a3), none] [] [] S := evm_s (n := 5) rfl (Nat.le_of_ble_eq_true rfl) rfl rfl
/-! FrequencyOfficeLaw.close(LFrequencyOffice;I[J)I -/
theorem i94_0 : insAt 94 0 = some (.aload_n 2, 1, (0, 0, 0, 0), 0) := rfl
theorem s94_0 {c : Nat → List AV → SS → Option Out} {l0 l1 l3 : Option AV} {o : OId} {L2 : List (Nat × AV)} {St : List AV} {S : SS} : ev c 94 0 [l0, l1, some (aR o), l3] L2 St S = ev c 94 1 [l0, l1, some (aR o), l3] L2 (aR o :: St) S := ev_go i94_0 rfl
theorem i94_1 : insAt 94 1 = some (.iconst 0, 1, (0, 0, 0, 0), 0) := rfl
theorem s94_1 {c : Nat → List AV → SS → Option Out} {l0 l1 l2 l3 : Option AV} {L2 : List (Nat × AV)} {St : List AV} {S : SS} : ev c 94 1 [l0, l1, l2, l3] L2 St S = ev c 94 2 [l0, l1, l2, l3] L2 (aI 0 :: St) S := ev_go i94_1 rfl
theorem i94_2 : insAt 94 2 = some (.aload_n 0, 1, (0, 0, 0, 0), 0) := rfl
theorem s94_2 {c : Nat → List AV → SS → Option Out} {l1 l2 l3 : Option AV} {o : OId} {L2 : List (Nat × AV)} {St : List AV} {S : SS} : ev c 94 2 [some (aR o), l1, l2, l3] L2 St S = ev c 94 3 [some (aR o), l1, l2, l3] L2 (aR o :: St) S := ev_go i94_2 rfl
theorem i94_3 : insAt 94 3 = some (.iload_n 1, 1, (0, 0, 0, 0), 0) := rfl
theorem s94_3 {c : Nat → List AV → SS → Option Out} {l0 l2 l3 : Option AV} {x : Int32} {L2 : List (Nat × AV)} {St : List AV} {S : SS} : ev c 94 3 [l0, some (aI x), l2, l3] L2 St S = ev c 94 4 [l0, some (aI x), l2, l3] L2 (aI x :: St) S := ev_go i94_3 rfl
theorem i94_4 : insAt 94 4 = some (.invokevirtual 34, 3, (95, 1, 2, 11), 224) := rfl
theorem s94_4 {c : Nat → List AV → SS → Option Out} {l0 l1 l2 l3 : Option AV} {t0 t1 : AV} {a0 : Int32} {j t : Nat} {S : SS} : ev c 94 4 [l0, l1, l2, l3] [] [aI a0, aR (11, j, t), t0, t1] S = ckH [(0, 9, 13, 3, 3)] 4 (c 95 [aR (11, j, t), aI a0] S) (fun v S' => ev c 94 7 [l0, l1, l2, l3] [] (v.toList ++ [t0, t1]) S') (fun a b S' => ev c 94 a ([l0, l1, l2, l3].set b none) [] [] S') := ev_callH rfl (fun E a b h9 => hnd_lt rfl h9) i94_4 rfl
theorem i94_7 : insAt 94 7 = some (.i2l, 1, (0, 0, 0, 0), 0) := rfl
theorem s94_7 {c : Nat → List AV → SS → Option Out} {l0 l1 l2 l3 : Option AV} {x : Int32} {L2 : List (Nat × AV)} {St : List AV} {S : SS} : ev c 94 7 [l0, l1, l2, l3] L2 (aI x :: St) S = ev c 94 8 [l0, l1, l2, l3] L2 (aL x.toInt64 :: St) S := ev_go i94_7 rfl
theorem i94_8 : insAt 94 8 = some (.lastore, 1, (0, 0, 0, 0), 0) := rfl
theorem s94_8 {c : Nat → List AV → SS → Option Out} {l0 l1 l2 l3 : Option AV} {x : Int64} {i : Int32} {o : OId} {L2 : List (Nat × AV)} {St : List AV} {S : SS} : ev c 94 8 [l0, l1, l2, l3] L2 (aL x :: aI i :: aR o :: St) S = kJ o i (ev c 94 9 [l0, l1, l2, l3] L2 St (S.1, setV S.2.1 o i.toNatClampNeg (aL x), S.2.2)) := ev_lastore i94_8
theorem i94_9 : insAt 94 9 = some (.goto 6, 3, (0, 0, 0, 0), 0) := rfl
theorem s94_9 {c : Nat → List AV → SS → Option Out} {l0 l1 l2 l3 : Option AV} {L2 : List (Nat × AV)} {St : List AV} {S : SS} : ev c 94 9 [l0, l1, l2, l3] L2 St S = ev c 94 15 [l0, l1, l2, l3] L2 St S := ev_go i94_9 rfl
theorem i94_13 : insAt 94 13 = some (.iconst 1, 1, (0, 0, 0, 0), 0) := rfl
theorem s94_13 {c : Nat → List AV → SS → Option Out} {l0 l1 l2 l3 : Option AV} {L2 : List (Nat × AV)} {St : List AV} {S : SS} : ev c 94 13 [l0, l1, l2, l3] L2 St S = ev c 94 14 [l0, l1, l2, l3] L2 (aI 1 :: St) S := ev_go i94_13 rfl
theorem i94_14 : insAt 94 14 = some (.ireturn, 1, (0, 0, 0, 0), 0) := rfl
theorem s94_14 {c : Nat → List AV → SS → Option Out} {l0 l1 l2 l3 : Option AV} {x : Int32} {L2 : List (Nat × AV)} {S : SS} : ev c 94 14 [l0, l1, l2, l3] L2 [aI x] S = some (.inl (some (aI x)), S) := ev_end i94_14 rfl
theorem i94_15 : insAt 94 15 = some (.iconst 0, 1, (0, 0, 0, 0), 0) := rfl
theorem s94_15 {c : Nat → List AV → SS → Option Out} {l0 l1 l2 l3 : Option AV} {L2 : List (Nat × AV)} {St : List AV} {S : SS} : ev c 94 15 [l0, l1, l2, l3] L2 St S = ev c 94 16 [l0, l1, l2, l3] L2 (aI 0 :: St) S := ev_go i94_15 rfl
theorem i94_16 : insAt 94 16 = some (.ireturn, 1, (0, 0, 0, 0), 0) := rfl
theorem s94_16 {c : Nat → List AV → SS → Option Out} {l0 l1 l2 l3 : Option AV} {x : Int32} {L2 : List (Nat × AV)} {S : SS} : ev c 94 16 [l0, l1, l2, l3] L2 [aI x] S = some (.inl (some (aI x)), S) := ev_end i94_16 rfl
theorem m94 {d : Nat} {a0 : OId} {a1 : Int32} {a2 : OId} {S : SS} : evm (d + 1) 94 [aR a0, aI a1, aR a2] S = ev (evm d) 94 0 [some (aR a0), some (aI a1), some (aR a2), none] [] [] S := evm_s (n := 4) rfl (Nat.le_of_ble_eq_true rfl) rfl rfl
/-! FrequencyOfficeLaw.pass(LFrequencyOffice;I[J)I -/
theorem i96_0 : insAt 96 0 = some (.aload_n 2, 1, (0, 0, 0, 0), 0) := rfl
theorem s96_0 {c : Nat → List AV → SS → Option Out} {l0 l1 l3 : Option AV} {o : OId} {L2 : List (Nat × AV)} {St : List AV} {S : SS} : ev c 96 0 [l0, l1, some (aR o), l3] L2 St S = ev c 96 1 [l0, l1, some (aR o), l3] L2 (aR o :: St) S := ev_go i96_0 rfl
theorem i96_1 : insAt 96 1 = some (.iconst 0, 1, (0, 0, 0, 0), 0) := rfl
theorem s96_1 {c : Nat → List AV → SS → Option Out} {l0 l1 l2 l3 : Option AV} {L2 : List (Nat × AV)} {St : List AV} {S : SS} : ev c 96 1 [l0, l1, l2, l3] L2 St S = ev c 96 2 [l0, l1, l2, l3] L2 (aI 0 :: St) S := ev_go i96_1 rfl
theorem i96_2 : insAt 96 2 = some (.aload_n 0, 1, (0, 0, 0, 0), 0) := rfl
theorem s96_2 {c : Nat → List AV → SS → Option Out} {l1 l2 l3 : Option AV} {o : OId} {L2 : List (Nat × AV)} {St : List AV} {S : SS} : ev c 96 2 [some (aR o), l1, l2, l3] L2 St S = ev c 96 3 [some (aR o), l1, l2, l3] L2 (aR o :: St) S := ev_go i96_2 rfl
theorem i96_3 : insAt 96 3 = some (.iload_n 1, 1, (0, 0, 0, 0), 0) := rfl
theorem s96_3 {c : Nat → List AV → SS → Option Out} {l0 l2 l3 : Option AV} {x : Int32} {L2 : List (Nat × AV)} {St : List AV} {S : SS} : ev c 96 3 [l0, some (aI x), l2, l3] L2 St S = ev c 96 4 [l0, some (aI x), l2, l3] L2 (aI x :: St) S := ev_go i96_3 rfl
theorem i96_4 : insAt 96 4 = some (.invokevirtual 38, 3, (97, 1, 2, 11), 226) := rfl
theorem s96_4 {c : Nat → List AV → SS → Option Out} {l0 l1 l2 l3 : Option AV} {t0 t1 : AV} {a0 : Int32} {j t : Nat} {S : SS} : ev c 96 4 [l0, l1, l2, l3] [] [aI a0, aR (11, j, t), t0, t1] S = ckH [(0, 9, 13, 3, 0), (0, 9, 16, 3, 1)] 4 (c 97 [aR (11, j, t), aI a0] S) (fun v S' => ev c 96 7 [l0, l1, l2, l3] [] (v.toList ++ [t0, t1]) S') (fun a b S' => ev c 96 a ([l0, l1, l2, l3].set b none) [] [] S') := ev_callH rfl (fun E a b h9 => hnd_lt rfl h9) i96_4 rfl
theorem i96_7 : insAt 96 7 = some (.i2l, 1, (0, 0, 0, 0), 0) := rfl
theorem s96_7 {c : Nat → List AV → SS → Option Out} {l0 l1 l2 l3 : Option AV} {x : Int32} {L2 : List (Nat × AV)} {St : List AV} {S : SS} : ev c 96 7 [l0, l1, l2, l3] L2 (aI x :: St) S = ev c 96 8 [l0, l1, l2, l3] L2 (aL x.toInt64 :: St) S := ev_go i96_7 rfl
theorem i96_8 : insAt 96 8 = some (.lastore, 1, (0, 0, 0, 0), 0) := rfl
theorem s96_8 {c : Nat → List AV → SS → Option Out} {l0 l1 l2 l3 : Option AV} {x : Int64} {i : Int32} {o : OId} {L2 : List (Nat × AV)} {St : List AV} {S : SS} : ev c 96 8 [l0, l1, l2, l3] L2 (aL x :: aI i :: aR o :: St) S = kJ o i (ev c 96 9 [l0, l1, l2, l3] L2 St (S.1, setV S.2.1 o i.toNatClampNeg (aL x), S.2.2)) := ev_lastore i96_8
theorem i96_9 : insAt 96 9 = some (.goto 9, 3, (0, 0, 0, 0), 0) := rfl
theorem s96_9 {c : Nat → List AV → SS → Option Out} {l0 l1 l2 l3 : Option AV} {L2 : List (Nat × AV)} {St : List AV} {S : SS} : ev c 96 9 [l0, l1, l2, l3] L2 St S = ev c 96 18 [l0, l1, l2, l3] L2 St S := ev_go i96_9 rfl
theorem i96_13 : insAt 96 13 = some (.iconst 1, 1, (0, 0, 0, 0), 0) := rfl
theorem s96_13 {c : Nat → List AV → SS → Option Out} {l0 l1 l2 l3 : Option AV} {L2 : List (Nat × AV)} {St : List AV} {S : SS} : ev c 96 13 [l0, l1, l2, l3] L2 St S = ev c 96 14 [l0, l1, l2, l3] L2 (aI 1 :: St) S := ev_go i96_13 rfl
theorem i96_14 : insAt 96 14 = some (.ireturn, 1, (0, 0, 0, 0), 0) := rfl
theorem s96_14 {c : Nat → List AV → SS → Option Out} {l0 l1 l2 l3 : Option AV} {x : Int32} {L2 : List (Nat × AV)} {S : SS} : ev c 96 14 [l0, l1, l2, l3] L2 [aI x] S = some (.inl (some (aI x)), S) := ev_end i96_14 rfl
theorem i96_16 : insAt 96 16 = some (.iconst 2, 1, (0, 0, 0, 0), 0) := rfl
theorem s96_16 {c : Nat → List AV → SS → Option Out} {l0 l1 l2 l3 : Option AV} {L2 : List (Nat × AV)} {St : List AV} {S : SS} : ev c 96 16 [l0, l1, l2, l3] L2 St S = ev c 96 17 [l0, l1, l2, l3] L2 (aI 2 :: St) S := ev_go i96_16 rfl
theorem i96_17 : insAt 96 17 = some (.ireturn, 1, (0, 0, 0, 0), 0) := rfl
theorem s96_17 {c : Nat → List AV → SS → Option Out} {l0 l1 l2 l3 : Option AV} {x : Int32} {L2 : List (Nat × AV)} {S : SS} : ev c 96 17 [l0, l1, l2, l3] L2 [aI x] S = some (.inl (some (aI x)), S) := ev_end i96_17 rfl
theorem i96_18 : insAt 96 18 = some (.iconst 0, 1, (0, 0, 0, 0), 0) := rfl
theorem s96_18 {c : Nat → List AV → SS → Option Out} {l0 l1 l2 l3 : Option AV} {L2 : List (Nat × AV)} {St : List AV} {S : SS} : ev c 96 18 [l0, l1, l2, l3] L2 St S = ev c 96 19 [l0, l1, l2, l3] L2 (aI 0 :: St) S := ev_go i96_18 rfl
theorem i96_19 : insAt 96 19 = some (.ireturn, 1, (0, 0, 0, 0), 0) := rfl
theorem s96_19 {c : Nat → List AV → SS → Option Out} {l0 l1 l2 l3 : Option AV} {x : Int32} {L2 : List (Nat × AV)} {S : SS} : ev c 96 19 [l0, l1, l2, l3] L2 [aI x] S = some (.inl (some (aI x)), S) := ev_end i96_19 rfl
theorem m96 {d : Nat} {a0 : OId} {a1 : Int32} {a2 : OId} {S : SS} : evm (d + 1) 96 [aR a0, aI a1, aR a2] S = ev (evm d) 96 0 [some (aR a0), some (aI a1), some (aR a2), none] [] [] S := evm_s (n := 4) rfl (Nat.le_of_ble_eq_true rfl) rfl rfl
/-! FrequencyOfficeLaw.stationAt(LFrequencyOffice;I[J)I -/
theorem i99_0 : insAt 99 0 = some (.aload_n 2, 1, (0, 0, 0, 0), 0) := rfl
theorem s99_0 {c : Nat → List AV → SS → Option Out} {l0 l1 l3 : Option AV} {o : OId} {L2 : List (Nat × AV)} {St : List AV} {S : SS} : ev c 99 0 [l0, l1, some (aR o), l3] L2 St S = ev c 99 1 [l0, l1, some (aR o), l3] L2 (aR o :: St) S := ev_go i99_0 rfl
theorem i99_1 : insAt 99 1 = some (.iconst 0, 1, (0, 0, 0, 0), 0) := rfl
theorem s99_1 {c : Nat → List AV → SS → Option Out} {l0 l1 l2 l3 : Option AV} {L2 : List (Nat × AV)} {St : List AV} {S : SS} : ev c 99 1 [l0, l1, l2, l3] L2 St S = ev c 99 2 [l0, l1, l2, l3] L2 (aI 0 :: St) S := ev_go i99_1 rfl
theorem i99_2 : insAt 99 2 = some (.aload_n 0, 1, (0, 0, 0, 0), 0) := rfl
theorem s99_2 {c : Nat → List AV → SS → Option Out} {l1 l2 l3 : Option AV} {o : OId} {L2 : List (Nat × AV)} {St : List AV} {S : SS} : ev c 99 2 [some (aR o), l1, l2, l3] L2 St S = ev c 99 3 [some (aR o), l1, l2, l3] L2 (aR o :: St) S := ev_go i99_2 rfl
theorem i99_3 : insAt 99 3 = some (.iload_n 1, 1, (0, 0, 0, 0), 0) := rfl
theorem s99_3 {c : Nat → List AV → SS → Option Out} {l0 l2 l3 : Option AV} {x : Int32} {L2 : List (Nat × AV)} {St : List AV} {S : SS} : ev c 99 3 [l0, some (aI x), l2, l3] L2 St S = ev c 99 4 [l0, some (aI x), l2, l3] L2 (aI x :: St) S := ev_go i99_3 rfl
theorem i99_4 : insAt 99 4 = some (.invokevirtual 41, 3, (100, 1, 2, 11), 228) := rfl
theorem s99_4 {c : Nat → List AV → SS → Option Out} {l0 l1 l2 l3 : Option AV} {t0 t1 : AV} {a0 : Int32} {j t : Nat} {S : SS} : ev c 99 4 [l0, l1, l2, l3] [] [aI a0, aR (11, j, t), t0, t1] S = ckH [(0, 9, 13, 3, 4)] 4 (c 100 [aR (11, j, t), aI a0] S) (fun v S' => ev c 99 7 [l0, l1, l2, l3] [] (v.toList ++ [t0, t1]) S') (fun a b S' => ev c 99 a ([l0, l1, l2, l3].set b none) [] [] S') := ev_callH rfl (fun E a b h9 => hnd_lt rfl h9) i99_4 rfl
theorem i99_7 : insAt 99 7 = some (.i2l, 1, (0, 0, 0, 0), 0) := rfl
theorem s99_7 {c : Nat → List AV → SS → Option Out} {l0 l1 l2 l3 : Option AV} {x : Int32} {L2 : List (Nat × AV)} {St : List AV} {S : SS} : ev c 99 7 [l0, l1, l2, l3] L2 (aI x :: St) S = ev c 99 8 [l0, l1, l2, l3] L2 (aL x.toInt64 :: St) S := ev_go i99_7 rfl
theorem i99_8 : insAt 99 8 = some (.lastore, 1, (0, 0, 0, 0), 0) := rfl
theorem s99_8 {c : Nat → List AV → SS → Option Out} {l0 l1 l2 l3 : Option AV} {x : Int64} {i : Int32} {o : OId} {L2 : List (Nat × AV)} {St : List AV} {S : SS} : ev c 99 8 [l0, l1, l2, l3] L2 (aL x :: aI i :: aR o :: St) S = kJ o i (ev c 99 9 [l0, l1, l2, l3] L2 St (S.1, setV S.2.1 o i.toNatClampNeg (aL x), S.2.2)) := ev_lastore i99_8
theorem i99_9 : insAt 99 9 = some (.goto 6, 3, (0, 0, 0, 0), 0) := rfl
theorem s99_9 {c : Nat → List AV → SS → Option Out} {l0 l1 l2 l3 : Option AV} {L2 : List (Nat × AV)} {St : List AV} {S : SS} : ev c 99 9 [l0, l1, l2, l3] L2 St S = ev c 99 15 [l0, l1, l2, l3] L2 St S := ev_go i99_9 rfl
theorem i99_13 : insAt 99 13 = some (.iconst 1, 1, (0, 0, 0, 0), 0) := rfl
theorem s99_13 {c : Nat → List AV → SS → Option Out} {l0 l1 l2 l3 : Option AV} {L2 : List (Nat × AV)} {St : List AV} {S : SS} : ev c 99 13 [l0, l1, l2, l3] L2 St S = ev c 99 14 [l0, l1, l2, l3] L2 (aI 1 :: St) S := ev_go i99_13 rfl
theorem i99_14 : insAt 99 14 = some (.ireturn, 1, (0, 0, 0, 0), 0) := rfl
theorem s99_14 {c : Nat → List AV → SS → Option Out} {l0 l1 l2 l3 : Option AV} {x : Int32} {L2 : List (Nat × AV)} {S : SS} : ev c 99 14 [l0, l1, l2, l3] L2 [aI x] S = some (.inl (some (aI x)), S) := ev_end i99_14 rfl
theorem i99_15 : insAt 99 15 = some (.iconst 0, 1, (0, 0, 0, 0), 0) := rfl
theorem s99_15 {c : Nat → List AV → SS → Option Out} {l0 l1 l2 l3 : Option AV} {L2 : List (Nat × AV)} {St : List AV} {S : SS} : ev c 99 15 [l0, l1, l2, l3] L2 St S = ev c 99 16 [l0, l1, l2, l3] L2 (aI 0 :: St) S := ev_go i99_15 rfl
theorem i99_16 : insAt 99 16 = some (.ireturn, 1, (0, 0, 0, 0), 0) := rfl
theorem s99_16 {c : Nat → List AV → SS → Option Out} {l0 l1 l2 l3 : Option AV} {x : Int32} {L2 : List (Nat × AV)} {S : SS} : ev c 99 16 [l0, l1, l2, l3] L2 [aI x] S = some (.inl (some (aI x)), S) := ev_end i99_16 rfl
theorem m99 {d : Nat} {a0 : OId} {a1 : Int32} {a2 : OId} {S : SS} : evm (d + 1) 99 [aR a0, aI a1, aR a2] S = ev (evm d) 99 0 [some (aR a0), some (aI a1), some (aR a2), none] [] [] S := evm_s (n := 4) rfl (Nat.le_of_ble_eq_true rfl) rfl rfl
/-! FrequencyOfficeLaw.stationByExpiry(LFrequencyOffice;I[J)I -/
theorem i102_0 : insAt 102 0 = some (.aload_n 2, 1, (0, 0, 0, 0), 0) := rfl
theorem s102_0 {c : Nat → List AV → SS → Option Out} {l0 l1 l3 : Option AV} {o : OId} {L2 : List (Nat × AV)} {St : List AV} {S : SS} : ev c 102 0 [l0, l1, some (aR o), l3] L2 St S = ev c 102 1 [l0, l1, some (aR o), l3] L2 (aR o :: St) S := ev_go i102_0 rfl
theorem i102_1 : insAt 102 1 = some (.iconst 0, 1, (0, 0, 0, 0), 0) := rfl
theorem s102_1 {c : Nat → List AV → SS → Option Out} {l0 l1 l2 l3 : Option AV} {L2 : List (Nat × AV)} {St : List AV} {S : SS} : ev c 102 1 [l0, l1, l2, l3] L2 St S = ev c 102 2 [l0, l1, l2, l3] L2 (aI 0 :: St) S := ev_go i102_1 rfl
theorem i102_2 : insAt 102 2 = some (.aload_n 0, 1, (0, 0, 0, 0), 0) := rfl
theorem s102_2 {c : Nat → List AV → SS → Option Out} {l1 l2 l3 : Option AV} {o : OId} {L2 : List (Nat × AV)} {St : List AV} {S : SS} : ev c 102 2 [some (aR o), l1, l2, l3] L2 St S = ev c 102 3 [some (aR o), l1, l2, l3] L2 (aR o :: St) S := ev_go i102_2 rfl
theorem i102_3 : insAt 102 3 = some (.iload_n 1, 1, (0, 0, 0, 0), 0) := rfl
theorem s102_3 {c : Nat → List AV → SS → Option Out} {l0 l2 l3 : Option AV} {x : Int32} {L2 : List (Nat × AV)} {St : List AV} {S : SS} : ev c 102 3 [l0, some (aI x), l2, l3] L2 St S = ev c 102 4 [l0, some (aI x), l2, l3] L2 (aI x :: St) S := ev_go i102_3 rfl
theorem i102_4 : insAt 102 4 = some (.invokevirtual 46, 3, (103, 1, 2, 11), 232) := rfl
theorem s102_4 {c : Nat → List AV → SS → Option Out} {l0 l1 l2 l3 : Option AV} {t0 t1 : AV} {a0 : Int32} {j t : Nat} {S : SS} : ev c 102 4 [l0, l1, l2, l3] [] [aI a0, aR (11, j, t), t0, t1] S = ckH [(0, 9, 13, 3, 4)] 4 (c 103 [aR (11, j, t), aI a0] S) (fun v S' => ev c 102 7 [l0, l1, l2, l3] [] (v.toList ++ [t0, t1]) S') (fun a b S' => ev c 102 a ([l0, l1, l2, l3].set b none) [] [] S') := ev_callH rfl (fun E a b h9 => hnd_lt rfl h9) i102_4 rfl
theorem i102_7 : insAt 102 7 = some (.i2l, 1, (0, 0, 0, 0), 0) := rfl
theorem s102_7 {c : Nat → List AV → SS → Option Out} {l0 l1 l2 l3 : Option AV} {x : Int32} {L2 : List (Nat × AV)} {St : List AV} {S : SS} : ev c 102 7 [l0, l1, l2, l3] L2 (aI x :: St) S = ev c 102 8 [l0, l1, l2, l3] L2 (aL x.toInt64 :: St) S := ev_go i102_7 rfl
theorem i102_8 : insAt 102 8 = some (.lastore, 1, (0, 0, 0, 0), 0) := rfl
theorem s102_8 {c : Nat → List AV → SS → Option Out} {l0 l1 l2 l3 : Option AV} {x : Int64} {i : Int32} {o : OId} {L2 : List (Nat × AV)} {St : List AV} {S : SS} : ev c 102 8 [l0, l1, l2, l3] L2 (aL x :: aI i :: aR o :: St) S = kJ o i (ev c 102 9 [l0, l1, l2, l3] L2 St (S.1, setV S.2.1 o i.toNatClampNeg (aL x), S.2.2)) := ev_lastore i102_8
theorem i102_9 : insAt 102 9 = some (.goto 6, 3, (0, 0, 0, 0), 0) := rfl
theorem s102_9 {c : Nat → List AV → SS → Option Out} {l0 l1 l2 l3 : Option AV} {L2 : List (Nat × AV)} {St : List AV} {S : SS} : ev c 102 9 [l0, l1, l2, l3] L2 St S = ev c 102 15 [l0, l1, l2, l3] L2 St S := ev_go i102_9 rfl
theorem i102_13 : insAt 102 13 = some (.iconst 1, 1, (0, 0, 0, 0), 0) := rfl
theorem s102_13 {c : Nat → List AV → SS → Option Out} {l0 l1 l2 l3 : Option AV} {L2 : List (Nat × AV)} {St : List AV} {S : SS} : ev c 102 13 [l0, l1, l2, l3] L2 St S = ev c 102 14 [l0, l1, l2, l3] L2 (aI 1 :: St) S := ev_go i102_13 rfl
theorem i102_14 : insAt 102 14 = some (.ireturn, 1, (0, 0, 0, 0), 0) := rfl
theorem s102_14 {c : Nat → List AV → SS → Option Out} {l0 l1 l2 l3 : Option AV} {x : Int32} {L2 : List (Nat × AV)} {S : SS} : ev c 102 14 [l0, l1, l2, l3] L2 [aI x] S = some (.inl (some (aI x)), S) := ev_end i102_14 rfl
theorem i102_15 : insAt 102 15 = some (.iconst 0, 1, (0, 0, 0, 0), 0) := rfl
theorem s102_15 {c : Nat → List AV → SS → Option Out} {l0 l1 l2 l3 : Option AV} {L2 : List (Nat × AV)} {St : List AV} {S : SS} : ev c 102 15 [l0, l1, l2, l3] L2 St S = ev c 102 16 [l0, l1, l2, l3] L2 (aI 0 :: St) S := ev_go i102_15 rfl
theorem i102_16 : insAt 102 16 = some (.ireturn, 1, (0, 0, 0, 0), 0) := rfl
theorem s102_16 {c : Nat → List AV → SS → Option Out} {l0 l1 l2 l3 : Option AV} {x : Int32} {L2 : List (Nat × AV)} {S : SS} : ev c 102 16 [l0, l1, l2, l3] L2 [aI x] S = some (.inl (some (aI x)), S) := ev_end i102_16 rfl
theorem m102 {d : Nat} {a0 : OId} {a1 : Int32} {a2 : OId} {S : SS} : evm (d + 1) 102 [aR a0, aI a1, aR a2] S = ev (evm d) 102 0 [some (aR a0), some (aI a1), some (aR a2), none] [] [] S := evm_s (n := 4) rfl (Nat.le_of_ble_eq_true rfl) rfl rfl
/-! FrequencyOfficeLaw.xOf(LFrequencyOffice;I[J)I -/
theorem i106_0 : insAt 106 0 = some (.aload_n 2, 1, (0, 0, 0, 0), 0) := rfl
theorem s106_0 {c : Nat → List AV → SS → Option Out} {l0 l1 l3 : Option AV} {o : OId} {L2 : List (Nat × AV)} {St : List AV} {S : SS} : ev c 106 0 [l0, l1, some (aR o), l3] L2 St S = ev c 106 1 [l0, l1, some (aR o), l3] L2 (aR o :: St) S := ev_go i106_0 rfl
theorem i106_1 : insAt 106 1 = some (.iconst 0, 1, (0, 0, 0, 0), 0) := rfl
theorem s106_1 {c : Nat → List AV → SS → Option Out} {l0 l1 l2 l3 : Option AV} {L2 : List (Nat × AV)} {St : List AV} {S : SS} : ev c 106 1 [l0, l1, l2, l3] L2 St S = ev c 106 2 [l0, l1, l2, l3] L2 (aI 0 :: St) S := ev_go i106_1 rfl
theorem i106_2 : insAt 106 2 = some (.aload_n 0, 1, (0, 0, 0, 0), 0) := rfl
theorem s106_2 {c : Nat → List AV → SS → Option Out} {l1 l2 l3 : Option AV} {o : OId} {L2 : List (Nat × AV)} {St : List AV} {S : SS} : ev c 106 2 [some (aR o), l1, l2, l3] L2 St S = ev c 106 3 [some (aR o), l1, l2, l3] L2 (aR o :: St) S := ev_go i106_2 rfl
theorem i106_3 : insAt 106 3 = some (.iload_n 1, 1, (0, 0, 0, 0), 0) := rfl
theorem s106_3 {c : Nat → List AV → SS → Option Out} {l0 l2 l3 : Option AV} {x : Int32} {L2 : List (Nat × AV)} {St : List AV} {S : SS} : ev c 106 3 [l0, some (aI x), l2, l3] L2 St S = ev c 106 4 [l0, some (aI x), l2, l3] L2 (aI x :: St) S := ev_go i106_3 rfl
theorem i106_4 : insAt 106 4 = some (.invokevirtual 49, 3, (107, 1, 2, 11), 235) := rfl
theorem s106_4 {c : Nat → List AV → SS → Option Out} {l0 l1 l2 l3 : Option AV} {t0 t1 : AV} {a0 : Int32} {j t : Nat} {S : SS} : ev c 106 4 [l0, l1, l2, l3] [] [aI a0, aR (11, j, t), t0, t1] S = ckH [(0, 9, 13, 3, 3)] 4 (c 107 [aR (11, j, t), aI a0] S) (fun v S' => ev c 106 7 [l0, l1, l2, l3] [] (v.toList ++ [t0, t1]) S') (fun a b S' => ev c 106 a ([l0, l1, l2, l3].set b none) [] [] S') := ev_callH rfl (fun E a b h9 => hnd_lt rfl h9) i106_4 rfl
theorem i106_7 : insAt 106 7 = some (.i2l, 1, (0, 0, 0, 0), 0) := rfl
theorem s106_7 {c : Nat → List AV → SS → Option Out} {l0 l1 l2 l3 : Option AV} {x : Int32} {L2 : List (Nat × AV)} {St : List AV} {S : SS} : ev c 106 7 [l0, l1, l2, l3] L2 (aI x :: St) S = ev c 106 8 [l0, l1, l2, l3] L2 (aL x.toInt64 :: St) S := ev_go i106_7 rfl
theorem i106_8 : insAt 106 8 = some (.lastore, 1, (0, 0, 0, 0), 0) := rfl
theorem s106_8 {c : Nat → List AV → SS → Option Out} {l0 l1 l2 l3 : Option AV} {x : Int64} {i : Int32} {o : OId} {L2 : List (Nat × AV)} {St : List AV} {S : SS} : ev c 106 8 [l0, l1, l2, l3] L2 (aL x :: aI i :: aR o :: St) S = kJ o i (ev c 106 9 [l0, l1, l2, l3] L2 St (S.1, setV S.2.1 o i.toNatClampNeg (aL x), S.2.2)) := ev_lastore i106_8
theorem i106_9 : insAt 106 9 = some (.goto 6, 3, (0, 0, 0, 0), 0) := rfl
theorem s106_9 {c : Nat → List AV → SS → Option Out} {l0 l1 l2 l3 : Option AV} {L2 : List (Nat × AV)} {St : List AV} {S : SS} : ev c 106 9 [l0, l1, l2, l3] L2 St S = ev c 106 15 [l0, l1, l2, l3] L2 St S := ev_go i106_9 rfl
theorem i106_13 : insAt 106 13 = some (.iconst 1, 1, (0, 0, 0, 0), 0) := rfl
theorem s106_13 {c : Nat → List AV → SS → Option Out} {l0 l1 l2 l3 : Option AV} {L2 : List (Nat × AV)} {St : List AV} {S : SS} : ev c 106 13 [l0, l1, l2, l3] L2 St S = ev c 106 14 [l0, l1, l2, l3] L2 (aI 1 :: St) S := ev_go i106_13 rfl
theorem i106_14 : insAt 106 14 = some (.ireturn, 1, (0, 0, 0, 0), 0) := rfl
theorem s106_14 {c : Nat → List AV → SS → Option Out} {l0 l1 l2 l3 : Option AV} {x : Int32} {L2 : List (Nat × AV)} {S : SS} : ev c 106 14 [l0, l1, l2, l3] L2 [aI x] S = some (.inl (some (aI x)), S) := ev_end i106_14 rfl
theorem i106_15 : insAt 106 15 = some (.iconst 0, 1, (0, 0, 0, 0), 0) := rfl
theorem s106_15 {c : Nat → List AV → SS → Option Out} {l0 l1 l2 l3 : Option AV} {L2 : List (Nat × AV)} {St : List AV} {S : SS} : ev c 106 15 [l0, l1, l2, l3] L2 St S = ev c 106 16 [l0, l1, l2, l3] L2 (aI 0 :: St) S := ev_go i106_15 rfl
theorem i106_16 : insAt 106 16 = some (.ireturn, 1, (0, 0, 0, 0), 0) := rfl
theorem s106_16 {c : Nat → List AV → SS → Option Out} {l0 l1 l2 l3 : Option AV} {x : Int32} {L2 : List (Nat × AV)} {S : SS} : ev c 106 16 [l0, l1, l2, l3] L2 [aI x] S = some (.inl (some (aI x)), S) := ev_end i106_16 rfl
theorem m106 {d : Nat} {a0 : OId} {a1 : Int32} {a2 : OId} {S : SS} : evm (d + 1) 106 [aR a0, aI a1, aR a2] S = ev (evm d) 106 0 [some (aR a0), some (aI a1), some (aR a2), none] [] [] S := evm_s (n := 4) rfl (Nat.le_of_ble_eq_true rfl) rfl rfl
/-! FrequencyOfficeLaw.yOf(LFrequencyOffice;I[J)I -/
theorem i108_0 : insAt 108 0 = some (.aload_n 2, 1, (0, 0, 0, 0), 0) := rfl
theorem s108_0 {c : Nat → List AV → SS → Option Out} {l0 l1 l3 : Option AV} {o : OId} {L2 : List (Nat × AV)} {St : List AV} {S : SS} : ev c 108 0 [l0, l1, some (aR o), l3] L2 St S = ev c 108 1 [l0, l1, some (aR o), l3] L2 (aR o :: St) S := ev_go i108_0 rfl
theorem i108_1 : insAt 108 1 = some (.iconst 0, 1, (0, 0, 0, 0), 0) := rfl
theorem s108_1 {c : Nat → List AV → SS → Option Out} {l0 l1 l2 l3 : Option AV} {L2 : List (Nat × AV)} {St : List AV} {S : SS} : ev c 108 1 [l0, l1, l2, l3] L2 St S = ev c 108 2 [l0, l1, l2, l3] L2 (aI 0 :: St) S := ev_go i108_1 rfl
theorem i108_2 : insAt 108 2 = some (.aload_n 0, 1, (0, 0, 0, 0), 0) := rfl
theorem s108_2 {c : Nat → List AV → SS → Option Out} {l1 l2 l3 : Option AV} {o : OId} {L2 : List (Nat × AV)} {St : List AV} {S : SS} : ev c 108 2 [some (aR o), l1, l2, l3] L2 St S = ev c 108 3 [some (aR o), l1, l2, l3] L2 (aR o :: St) S := ev_go i108_2 rfl
theorem i108_3 : insAt 108 3 = some (.iload_n 1, 1, (0, 0, 0, 0), 0) := rfl
theorem s108_3 {c : Nat → List AV → SS → Option Out} {l0 l2 l3 : Option AV} {x : Int32} {L2 : List (Nat × AV)} {St : List AV} {S : SS} : ev c 108 3 [l0, some (aI x), l2, l3] L2 St S = ev c 108 4 [l0, some (aI x), l2, l3] L2 (aI x :: St) S := ev_go i108_3 rfl
theorem i108_4 : insAt 108 4 = some (.invokevirtual 52, 3, (109, 1, 2, 11), 237) := rfl
theorem s108_4 {c : Nat → List AV → SS → Option Out} {l0 l1 l2 l3 : Option AV} {t0 t1 : AV} {a0 : Int32} {j t : Nat} {S : SS} : ev c 108 4 [l0, l1, l2, l3] [] [aI a0, aR (11, j, t), t0, t1] S = ckH [(0, 9, 13, 3, 3)] 4 (c 109 [aR (11, j, t), aI a0] S) (fun v S' => ev c 108 7 [l0, l1, l2, l3] [] (v.toList ++ [t0, t1]) S') (fun a b S' => ev c 108 a ([l0, l1, l2, l3].set b none) [] [] S') := ev_callH rfl (fun E a b h9 => hnd_lt rfl h9) i108_4 rfl
theorem i108_7 : insAt 108 7 = some (.i2l, 1, (0, 0, 0, 0), 0) := rfl
theorem s108_7 {c : Nat → List AV → SS → Option Out} {l0 l1 l2 l3 : Option AV} {x : Int32} {L2 : List (Nat × AV)} {St : List AV} {S : SS} : ev c 108 7 [l0, l1, l2, l3] L2 (aI x :: St) S = ev c 108 8 [l0, l1, l2, l3] L2 (aL x.toInt64 :: St) S := ev_go i108_7 rfl
theorem i108_8 : insAt 108 8 = some (.lastore, 1, (0, 0, 0, 0), 0) := rfl
theorem s108_8 {c : Nat → List AV → SS → Option Out} {l0 l1 l2 l3 : Option AV} {x : Int64} {i : Int32} {o : OId} {L2 : List (Nat × AV)} {St : List AV} {S : SS} : ev c 108 8 [l0, l1, l2, l3] L2 (aL x :: aI i :: aR o :: St) S = kJ o i (ev c 108 9 [l0, l1, l2, l3] L2 St (S.1, setV S.2.1 o i.toNatClampNeg (aL x), S.2.2)) := ev_lastore i108_8
theorem i108_9 : insAt 108 9 = some (.goto 6, 3, (0, 0, 0, 0), 0) := rfl
theorem s108_9 {c : Nat → List AV → SS → Option Out} {l0 l1 l2 l3 : Option AV} {L2 : List (Nat × AV)} {St : List AV} {S : SS} : ev c 108 9 [l0, l1, l2, l3] L2 St S = ev c 108 15 [l0, l1, l2, l3] L2 St S := ev_go i108_9 rfl
theorem i108_13 : insAt 108 13 = some (.iconst 1, 1, (0, 0, 0, 0), 0) := rfl
theorem s108_13 {c : Nat → List AV → SS → Option Out} {l0 l1 l2 l3 : Option AV} {L2 : List (Nat × AV)} {St : List AV} {S : SS} : ev c 108 13 [l0, l1, l2, l3] L2 St S = ev c 108 14 [l0, l1, l2, l3] L2 (aI 1 :: St) S := ev_go i108_13 rfl
theorem i108_14 : insAt 108 14 = some (.ireturn, 1, (0, 0, 0, 0), 0) := rfl
theorem s108_14 {c : Nat → List AV → SS → Option Out} {l0 l1 l2 l3 : Option AV} {x : Int32} {L2 : List (Nat × AV)} {S : SS} : ev c 108 14 [l0, l1, l2, l3] L2 [aI x] S = some (.inl (some (aI x)), S) := ev_end i108_14 rfl
theorem i108_15 : insAt 108 15 = some (.iconst 0, 1, (0, 0, 0, 0), 0) := rfl
theorem s108_15 {c : Nat → List AV → SS → Option Out} {l0 l1 l2 l3 : Option AV} {L2 : List (Nat × AV)} {St : List AV} {S : SS} : ev c 108 15 [l0, l1, l2, l3] L2 St S = ev c 108 16 [l0, l1, l2, l3] L2 (aI 0 :: St) S := ev_go i108_15 rfl
theorem i108_16 : insAt 108 16 = some (.ireturn, 1, (0, 0, 0, 0), 0) := rfl
theorem s108_16 {c : Nat → List AV → SS → Option Out} {l0 l1 l2 l3 : Option AV} {x : Int32} {L2 : List (Nat × AV)} {S : SS} : ev c 108 16 [l0, l1, l2, l3] L2 [aI x] S = some (.inl (some (aI x)), S) := ev_end i108_16 rfl
theorem m108 {d : Nat} {a0 : OId} {a1 : Int32} {a2 : OId} {S : SS} : evm (d + 1) 108 [aR a0, aI a1, aR a2] S = ev (evm d) 108 0 [some (aR a0), some (aI a1), some (aR a2), none] [] [] S := evm_s (n := 4) rfl (Nat.le_of_ble_eq_true rfl) rfl rfl
/-! FrequencyOfficeLaw.channelOf(LFrequencyOffice;I[J)I -/
theorem i110_0 : insAt 110 0 = some (.aload_n 2, 1, (0, 0, 0, 0), 0) := rfl
theorem s110_0 {c : Nat → List AV → SS → Option Out} {l0 l1 l3 : Option AV} {o : OId} {L2 : List (Nat × AV)} {St : List AV} {S : SS} : ev c 110 0 [l0, l1, some (aR o), l3] L2 St S = ev c 110 1 [l0, l1, some (aR o), l3] L2 (aR o :: St) S := ev_go i110_0 rfl
theorem i110_1 : insAt 110 1 = some (.iconst 0, 1, (0, 0, 0, 0), 0) := rfl
theorem s110_1 {c : Nat → List AV → SS → Option Out} {l0 l1 l2 l3 : Option AV} {L2 : List (Nat × AV)} {St : List AV} {S : SS} : ev c 110 1 [l0, l1, l2, l3] L2 St S = ev c 110 2 [l0, l1, l2, l3] L2 (aI 0 :: St) S := ev_go i110_1 rfl
theorem i110_2 : insAt 110 2 = some (.aload_n 0, 1, (0, 0, 0, 0), 0) := rfl
theorem s110_2 {c : Nat → List AV → SS → Option Out} {l1 l2 l3 : Option AV} {o : OId} {L2 : List (Nat × AV)} {St : List AV} {S : SS} : ev c 110 2 [some (aR o), l1, l2, l3] L2 St S = ev c 110 3 [some (aR o), l1, l2, l3] L2 (aR o :: St) S := ev_go i110_2 rfl
theorem i110_3 : insAt 110 3 = some (.iload_n 1, 1, (0, 0, 0, 0), 0) := rfl
theorem s110_3 {c : Nat → List AV → SS → Option Out} {l0 l2 l3 : Option AV} {x : Int32} {L2 : List (Nat × AV)} {St : List AV} {S : SS} : ev c 110 3 [l0, some (aI x), l2, l3] L2 St S = ev c 110 4 [l0, some (aI x), l2, l3] L2 (aI x :: St) S := ev_go i110_3 rfl
theorem i110_4 : insAt 110 4 = some (.invokevirtual 55, 3, (111, 1, 2, 11), 239) := rfl
theorem s110_4 {c : Nat → List AV → SS → Option Out} {l0 l1 l2 l3 : Option AV} {t0 t1 : AV} {a0 : Int32} {j t : Nat} {S : SS} : ev c 110 4 [l0, l1, l2, l3] [] [aI a0, aR (11, j, t), t0, t1] S = ckH [(0, 9, 13, 3, 3)] 4 (c 111 [aR (11, j, t), aI a0] S) (fun v S' => ev c 110 7 [l0, l1, l2, l3] [] (v.toList ++ [t0, t1]) S') (fun a b S' => ev c 110 a ([l0, l1, l2, l3].set b none) [] [] S') := ev_callH rfl (fun E a b h9 => hnd_lt rfl h9) i110_4 rfl
theorem i110_7 : insAt 110 7 = some (.i2l, 1, (0, 0, 0, 0), 0) := rfl
theorem s110_7 {c : Nat → List AV → SS → Option Out} {l0 l1 l2 l3 : Option AV} {x : Int32} {L2 : List (Nat × AV)} {St : List AV} {S : SS} : ev c 110 7 [l0, l1, l2, l3] L2 (aI x :: St) S = ev c 110 8 [l0, l1, l2, l3] L2 (aL x.toInt64 :: St) S := ev_go i110_7 rfl
theorem i110_8 : insAt 110 8 = some (.lastore, 1, (0, 0, 0, 0), 0) := rfl
theorem s110_8 {c : Nat → List AV → SS → Option Out} {l0 l1 l2 l3 : Option AV} {x : Int64} {i : Int32} {o : OId} {L2 : List (Nat × AV)} {St : List AV} {S : SS} : ev c 110 8 [l0, l1, l2, l3] L2 (aL x :: aI i :: aR o :: St) S = kJ o i (ev c 110 9 [l0, l1, l2, l3] L2 St (S.1, setV S.2.1 o i.toNatClampNeg (aL x), S.2.2)) := ev_lastore i110_8
theorem i110_9 : insAt 110 9 = some (.goto 6, 3, (0, 0, 0, 0), 0) := rfl
theorem s110_9 {c : Nat → List AV → SS → Option Out} {l0 l1 l2 l3 : Option AV} {L2 : List (Nat × AV)} {St : List AV} {S : SS} : ev c 110 9 [l0, l1, l2, l3] L2 St S = ev c 110 15 [l0, l1, l2, l3] L2 St S := ev_go i110_9 rfl
theorem i110_13 : insAt 110 13 = some (.iconst 1, 1, (0, 0, 0, 0), 0) := rfl
theorem s110_13 {c : Nat → List AV → SS → Option Out} {l0 l1 l2 l3 : Option AV} {L2 : List (Nat × AV)} {St : List AV} {S : SS} : ev c 110 13 [l0, l1, l2, l3] L2 St S = ev c 110 14 [l0, l1, l2, l3] L2 (aI 1 :: St) S := ev_go i110_13 rfl
theorem i110_14 : insAt 110 14 = some (.ireturn, 1, (0, 0, 0, 0), 0) := rfl
theorem s110_14 {c : Nat → List AV → SS → Option Out} {l0 l1 l2 l3 : Option AV} {x : Int32} {L2 : List (Nat × AV)} {S : SS} : ev c 110 14 [l0, l1, l2, l3] L2 [aI x] S = some (.inl (some (aI x)), S) := ev_end i110_14 rfl
theorem i110_15 : insAt 110 15 = some (.iconst 0, 1, (0, 0, 0, 0), 0) := rfl
theorem s110_15 {c : Nat → List AV → SS → Option Out} {l0 l1 l2 l3 : Option AV} {L2 : List (Nat × AV)} {St : List AV} {S : SS} : ev c 110 15 [l0, l1, l2, l3] L2 St S = ev c 110 16 [l0, l1, l2, l3] L2 (aI 0 :: St) S := ev_go i110_15 rfl
theorem i110_16 : insAt 110 16 = some (.ireturn, 1, (0, 0, 0, 0), 0) := rfl
theorem s110_16 {c : Nat → List AV → SS → Option Out} {l0 l1 l2 l3 : Option AV} {x : Int32} {L2 : List (Nat × AV)} {S : SS} : ev c 110 16 [l0, l1, l2, l3] L2 [aI x] S = some (.inl (some (aI x)), S) := ev_end i110_16 rfl
theorem m110 {d : Nat} {a0 : OId} {a1 : Int32} {a2 : OId} {S : SS} : evm (d + 1) 110 [aR a0, aI a1, aR a2] S = ev (evm d) 110 0 [some (aR a0), some (aI a1), some (aR a2), none] [] [] S := evm_s (n := 4) rfl (Nat.le_of_ble_eq_true rfl) rfl rfl
/-! FrequencyOfficeLaw.expiryOf(LFrequencyOffice;I[J)I -/
theorem i112_0 : insAt 112 0 = some (.aload_n 2, 1, (0, 0, 0, 0), 0) := rfl
theorem s112_0 {c : Nat → List AV → SS → Option Out} {l0 l1 l3 : Option AV} {o : OId} {L2 : List (Nat × AV)} {St : List AV} {S : SS} : ev c 112 0 [l0, l1, some (aR o), l3] L2 St S = ev c 112 1 [l0, l1, some (aR o), l3] L2 (aR o :: St) S := ev_go i112_0 rfl
theorem i112_1 : insAt 112 1 = some (.iconst 0, 1, (0, 0, 0, 0), 0) := rfl
theorem s112_1 {c : Nat → List AV → SS → Option Out} {l0 l1 l2 l3 : Option AV} {L2 : List (Nat × AV)} {St : List AV} {S : SS} : ev c 112 1 [l0, l1, l2, l3] L2 St S = ev c 112 2 [l0, l1, l2, l3] L2 (aI 0 :: St) S := ev_go i112_1 rfl
theorem i112_2 : insAt 112 2 = some (.aload_n 0, 1, (0, 0, 0, 0), 0) := rfl
theorem s112_2 {c : Nat → List AV → SS → Option Out} {l1 l2 l3 : Option AV} {o : OId} {L2 : List (Nat × AV)} {St : List AV} {S : SS} : ev c 112 2 [some (aR o), l1, l2, l3] L2 St S = ev c 112 3 [some (aR o), l1, l2, l3] L2 (aR o :: St) S := ev_go i112_2 rfl
theorem i112_3 : insAt 112 3 = some (.iload_n 1, 1, (0, 0, 0, 0), 0) := rfl
theorem s112_3 {c : Nat → List AV → SS → Option Out} {l0 l2 l3 : Option AV} {x : Int32} {L2 : List (Nat × AV)} {St : List AV} {S : SS} : ev c 112 3 [l0, some (aI x), l2, l3] L2 St S = ev c 112 4 [l0, some (aI x), l2, l3] L2 (aI x :: St) S := ev_go i112_3 rfl
theorem i112_4 : insAt 112 4 = some (.invokevirtual 58, 3, (113, 1, 2, 11), 240) := rfl
theorem s112_4 {c : Nat → List AV → SS → Option Out} {l0 l1 l2 l3 : Option AV} {t0 t1 : AV} {a0 : Int32} {j t : Nat} {S : SS} : ev c 112 4 [l0, l1, l2, l3] [] [aI a0, aR (11, j, t), t0, t1] S = ckH [(0, 9, 13, 3, 3)] 4 (c 113 [aR (11, j, t), aI a0] S) (fun v S' => ev c 112 7 [l0, l1, l2, l3] [] (v.toList ++ [t0, t1]) S') (fun a b S' => ev c 112 a ([l0, l1, l2, l3].set b none) [] [] S') := ev_callH rfl (fun E a b h9 => hnd_lt rfl h9) i112_4 rfl
theorem i112_7 : insAt 112 7 = some (.i2l, 1, (0, 0, 0, 0), 0) := rfl
theorem s112_7 {c : Nat → List AV → SS → Option Out} {l0 l1 l2 l3 : Option AV} {x : Int32} {L2 : List (Nat × AV)} {St : List AV} {S : SS} : ev c 112 7 [l0, l1, l2, l3] L2 (aI x :: St) S = ev c 112 8 [l0, l1, l2, l3] L2 (aL x.toInt64 :: St) S := ev_go i112_7 rfl
theorem i112_8 : insAt 112 8 = some (.lastore, 1, (0, 0, 0, 0), 0) := rfl
theorem s112_8 {c : Nat → List AV → SS → Option Out} {l0 l1 l2 l3 : Option AV} {x : Int64} {i : Int32} {o : OId} {L2 : List (Nat × AV)} {St : List AV} {S : SS} : ev c 112 8 [l0, l1, l2, l3] L2 (aL x :: aI i :: aR o :: St) S = kJ o i (ev c 112 9 [l0, l1, l2, l3] L2 St (S.1, setV S.2.1 o i.toNatClampNeg (aL x), S.2.2)) := ev_lastore i112_8
theorem i112_9 : insAt 112 9 = some (.goto 6, 3, (0, 0, 0, 0), 0) := rfl
theorem s112_9 {c : Nat → List AV → SS → Option Out} {l0 l1 l2 l3 : Option AV} {L2 : List (Nat × AV)} {St : List AV} {S : SS} : ev c 112 9 [l0, l1, l2, l3] L2 St S = ev c 112 15 [l0, l1, l2, l3] L2 St S := ev_go i112_9 rfl
theorem i112_13 : insAt 112 13 = some (.iconst 1, 1, (0, 0, 0, 0), 0) := rfl
theorem s112_13 {c : Nat → List AV → SS → Option Out} {l0 l1 l2 l3 : Option AV} {L2 : List (Nat × AV)} {St : List AV} {S : SS} : ev c 112 13 [l0, l1, l2, l3] L2 St S = ev c 112 14 [l0, l1, l2, l3] L2 (aI 1 :: St) S := ev_go i112_13 rfl
theorem i112_14 : insAt 112 14 = some (.ireturn, 1, (0, 0, 0, 0), 0) := rfl
theorem s112_14 {c : Nat → List AV → SS → Option Out} {l0 l1 l2 l3 : Option AV} {x : Int32} {L2 : List (Nat × AV)} {S : SS} : ev c 112 14 [l0, l1, l2, l3] L2 [aI x] S = some (.inl (some (aI x)), S) := ev_end i112_14 rfl
theorem i112_15 : insAt 112 15 = some (.iconst 0, 1, (0, 0, 0, 0), 0) := rfl
theorem s112_15 {c : Nat → List AV → SS → Option Out} {l0 l1 l2 l3 : Option AV} {L2 : List (Nat × AV)} {St : List AV} {S : SS} : ev c 112 15 [l0, l1, l2, l3] L2 St S = ev c 112 16 [l0, l1, l2, l3] L2 (aI 0 :: St) S := ev_go i112_15 rfl
theorem i112_16 : insAt 112 16 = some (.ireturn, 1, (0, 0, 0, 0), 0) := rfl
theorem s112_16 {c : Nat → List AV → SS → Option Out} {l0 l1 l2 l3 : Option AV} {x : Int32} {L2 : List (Nat × AV)} {S : SS} : ev c 112 16 [l0, l1, l2, l3] L2 [aI x] S = some (.inl (some (aI x)), S) := ev_end i112_16 rfl
theorem m112 {d : Nat} {a0 : OId} {a1 : Int32} {a2 : OId} {S : SS} : evm (d + 1) 112 [aR a0, aI a1, aR a2] S = ev (evm d) 112 0 [some (aR a0), some (aI a1), some (aR a2), none] [] [] S := evm_s (n := 4) rfl (Nat.le_of_ble_eq_true rfl) rfl rfl
/-! FrequencyOfficeLaw.isOnTrial(LFrequencyOffice;I[J)I -/
theorem i114_0 : insAt 114 0 = some (.aload_n 2, 1, (0, 0, 0, 0), 0) := rfl
theorem s114_0 {c : Nat → List AV → SS → Option Out} {l0 l1 l3 : Option AV} {o : OId} {L2 : List (Nat × AV)} {St : List AV} {S : SS} : ev c 114 0 [l0, l1, some (aR o), l3] L2 St S = ev c 114 1 [l0, l1, some (aR o), l3] L2 (aR o :: St) S := ev_go i114_0 rfl
theorem i114_1 : insAt 114 1 = some (.iconst 0, 1, (0, 0, 0, 0), 0) := rfl
theorem s114_1 {c : Nat → List AV → SS → Option Out} {l0 l1 l2 l3 : Option AV} {L2 : List (Nat × AV)} {St : List AV} {S : SS} : ev c 114 1 [l0, l1, l2, l3] L2 St S = ev c 114 2 [l0, l1, l2, l3] L2 (aI 0 :: St) S := ev_go i114_1 rfl
theorem i114_2 : insAt 114 2 = some (.aload_n 0, 1, (0, 0, 0, 0), 0) := rfl
theorem s114_2 {c : Nat → List AV → SS → Option Out} {l1 l2 l3 : Option AV} {o : OId} {L2 : List (Nat × AV)} {St : List AV} {S : SS} : ev c 114 2 [some (aR o), l1, l2, l3] L2 St S = ev c 114 3 [some (aR o), l1, l2, l3] L2 (aR o :: St) S := ev_go i114_2 rfl
theorem i114_3 : insAt 114 3 = some (.iload_n 1, 1, (0, 0, 0, 0), 0) := rfl
theorem s114_3 {c : Nat → List AV → SS → Option Out} {l0 l2 l3 : Option AV} {x : Int32} {L2 : List (Nat × AV)} {St : List AV} {S : SS} : ev c 114 3 [l0, some (aI x), l2, l3] L2 St S = ev c 114 4 [l0, some (aI x), l2, l3] L2 (aI x :: St) S := ev_go i114_3 rfl
theorem i114_4 : insAt 114 4 = some (.invokevirtual 61, 3, (115, 1, 2, 11), 241) := rfl
theorem s114_4 {c : Nat → List AV → SS → Option Out} {l0 l1 l2 l3 : Option AV} {t0 t1 : AV} {a0 : Int32} {j t : Nat} {S : SS} : ev c 114 4 [l0, l1, l2, l3] [] [aI a0, aR (11, j, t), t0, t1] S = ckH [(0, 16, 20, 3, 3)] 4 (c 115 [aR (11, j, t), aI a0] S) (fun v S' => ev c 114 7 [l0, l1, l2, l3] [] (v.toList ++ [t0, t1]) S') (fun a b S' => ev c 114 a ([l0, l1, l2, l3].set b none) [] [] S') := ev_callH rfl (fun E a b h9 => hnd_lt rfl h9) i114_4 rfl
theorem i114_7 : insAt 114 7 = some (.ifCond .eq 7, 3, (0, 0, 0, 0), 0) := rfl
theorem s114_7 {c : Nat → List AV → SS → Option Out} {l0 l1 l2 l3 : Option AV} {x : Int32} {L2 : List (Nat × AV)} {St : List AV} {S : SS} : ev c 114 7 [l0, l1, l2, l3] L2 (aI x :: St) S = if x = 0 then ev c 114 14 [l0, l1, l2, l3] L2 St S else ev c 114 10 [l0, l1, l2, l3] L2 St S := ev_br i114_7 rfl
theorem i114_10 : insAt 114 10 = some (.lconst 1, 1, (0, 0, 0, 0), 0) := rfl
theorem s114_10 {c : Nat → List AV → SS → Option Out} {l0 l1 l2 l3 : Option AV} {L2 : List (Nat × AV)} {St : List AV} {S : SS} : ev c 114 10 [l0, l1, l2, l3] L2 St S = ev c 114 11 [l0, l1, l2, l3] L2 (aL 1 :: St) S := ev_go i114_10 rfl
theorem i114_11 : insAt 114 11 = some (.goto 4, 3, (0, 0, 0, 0), 0) := rfl
theorem s114_11 {c : Nat → List AV → SS → Option Out} {l0 l1 l2 l3 : Option AV} {L2 : List (Nat × AV)} {St : List AV} {S : SS} : ev c 114 11 [l0, l1, l2, l3] L2 St S = ev c 114 15 [l0, l1, l2, l3] L2 St S := ev_go i114_11 rfl
theorem i114_14 : insAt 114 14 = some (.lconst 0, 1, (0, 0, 0, 0), 0) := rfl
theorem s114_14 {c : Nat → List AV → SS → Option Out} {l0 l1 l2 l3 : Option AV} {L2 : List (Nat × AV)} {St : List AV} {S : SS} : ev c 114 14 [l0, l1, l2, l3] L2 St S = ev c 114 15 [l0, l1, l2, l3] L2 (aL 0 :: St) S := ev_go i114_14 rfl
theorem i114_15 : insAt 114 15 = some (.lastore, 1, (0, 0, 0, 0), 0) := rfl
theorem s114_15 {c : Nat → List AV → SS → Option Out} {l0 l1 l2 l3 : Option AV} {x : Int64} {i : Int32} {o : OId} {L2 : List (Nat × AV)} {St : List AV} {S : SS} : ev c 114 15 [l0, l1, l2, l3] L2 (aL x :: aI i :: aR o :: St) S = kJ o i (ev c 114 16 [l0, l1, l2, l3] L2 St (S.1, setV S.2.1 o i.toNatClampNeg (aL x), S.2.2)) := ev_lastore i114_15
theorem i114_16 : insAt 114 16 = some (.goto 6, 3, (0, 0, 0, 0), 0) := rfl
theorem s114_16 {c : Nat → List AV → SS → Option Out} {l0 l1 l2 l3 : Option AV} {L2 : List (Nat × AV)} {St : List AV} {S : SS} : ev c 114 16 [l0, l1, l2, l3] L2 St S = ev c 114 22 [l0, l1, l2, l3] L2 St S := ev_go i114_16 rfl
theorem i114_20 : insAt 114 20 = some (.iconst 1, 1, (0, 0, 0, 0), 0) := rfl
theorem s114_20 {c : Nat → List AV → SS → Option Out} {l0 l1 l2 l3 : Option AV} {L2 : List (Nat × AV)} {St : List AV} {S : SS} : ev c 114 20 [l0, l1, l2, l3] L2 St S = ev c 114 21 [l0, l1, l2, l3] L2 (aI 1 :: St) S := ev_go i114_20 rfl
theorem i114_21 : insAt 114 21 = some (.ireturn, 1, (0, 0, 0, 0), 0) := rfl
theorem s114_21 {c : Nat → List AV → SS → Option Out} {l0 l1 l2 l3 : Option AV} {x : Int32} {L2 : List (Nat × AV)} {S : SS} : ev c 114 21 [l0, l1, l2, l3] L2 [aI x] S = some (.inl (some (aI x)), S) := ev_end i114_21 rfl
theorem i114_22 : insAt 114 22 = some (.iconst 0, 1, (0, 0, 0, 0), 0) := rfl
theorem s114_22 {c : Nat → List AV → SS → Option Out} {l0 l1 l2 l3 : Option AV} {L2 : List (Nat × AV)} {St : List AV} {S : SS} : ev c 114 22 [l0, l1, l2, l3] L2 St S = ev c 114 23 [l0, l1, l2, l3] L2 (aI 0 :: St) S := ev_go i114_22 rfl
theorem i114_23 : insAt 114 23 = some (.ireturn, 1, (0, 0, 0, 0), 0) := rfl
theorem s114_23 {c : Nat → List AV → SS → Option Out} {l0 l1 l2 l3 : Option AV} {x : Int32} {L2 : List (Nat × AV)} {S : SS} : ev c 114 23 [l0, l1, l2, l3] L2 [aI x] S = some (.inl (some (aI x)), S) := ev_end i114_23 rfl
theorem m114 {d : Nat} {a0 : OId} {a1 : Int32} {a2 : OId} {S : SS} : evm (d + 1) 114 [aR a0, aI a1, aR a2] S = ev (evm d) 114 0 [some (aR a0), some (aI a1), some (aR a2), none] [] [] S := evm_s (n := 4) rfl (Nat.le_of_ble_eq_true rfl) rfl rfl
/-! FrequencyOfficeLaw.squaredDistance(LFrequencyOffice;II[J)I -/
theorem i116_0 : insAt 116 0 = some (.aload_n 3, 1, (0, 0, 0, 0), 0) := rfl
theorem s116_0 {c : Nat → List AV → SS → Option Out} {l0 l1 l2 l4 : Option AV} {o : OId} {L2 : List (Nat × AV)} {St : List AV} {S : SS} : ev c 116 0 [l0, l1, l2, some (aR o), l4] L2 St S = ev c 116 1 [l0, l1, l2, some (aR o), l4] L2 (aR o :: St) S := ev_go i116_0 rfl
theorem i116_1 : insAt 116 1 = some (.iconst 0, 1, (0, 0, 0, 0), 0) := rfl
theorem s116_1 {c : Nat → List AV → SS → Option Out} {l0 l1 l2 l3 l4 : Option AV} {L2 : List (Nat × AV)} {St : List AV} {S : SS} : ev c 116 1 [l0, l1, l2, l3, l4] L2 St S = ev c 116 2 [l0, l1, l2, l3, l4] L2 (aI 0 :: St) S := ev_go i116_1 rfl
theorem i116_2 : insAt 116 2 = some (.aload_n 0, 1, (0, 0, 0, 0), 0) := rfl
theorem s116_2 {c : Nat → List AV → SS → Option Out} {l1 l2 l3 l4 : Option AV} {o : OId} {L2 : List (Nat × AV)} {St : List AV} {S : SS} : ev c 116 2 [some (aR o), l1, l2, l3, l4] L2 St S = ev c 116 3 [some (aR o), l1, l2, l3, l4] L2 (aR o :: St) S := ev_go i116_2 rfl
theorem i116_3 : insAt 116 3 = some (.iload_n 1, 1, (0, 0, 0, 0), 0) := rfl
theorem s116_3 {c : Nat → List AV → SS → Option Out} {l0 l2 l3 l4 : Option AV} {x : Int32} {L2 : List (Nat × AV)} {St : List AV} {S : SS} : ev c 116 3 [l0, some (aI x), l2, l3, l4] L2 St S = ev c 116 4 [l0, some (aI x), l2, l3, l4] L2 (aI x :: St) S := ev_go i116_3 rfl
theorem i116_4 : insAt 116 4 = some (.iload_n 2, 1, (0, 0, 0, 0), 0) := rfl
theorem s116_4 {c : Nat → List AV → SS → Option Out} {l0 l1 l3 l4 : Option AV} {x : Int32} {L2 : List (Nat × AV)} {St : List AV} {S : SS} : ev c 116 4 [l0, l1, some (aI x), l3, l4] L2 St S = ev c 116 5 [l0, l1, some (aI x), l3, l4] L2 (aI x :: St) S := ev_go i116_4 rfl
theorem i116_5 : insAt 116 5 = some (.invokevirtual 65, 3, (117, 2, 2, 11), 242) := rfl
theorem s116_5 {c : Nat → List AV → SS → Option Out} {l0 l1 l2 l3 l4 : Option AV} {t0 t1 : AV} {a0 : Int32} {a1 : Int32} {j t : Nat} {S : SS} : ev c 116 5 [l0, l1, l2, l3, l4] [] [aI a1, aI a0, aR (11, j, t), t0, t1] S = ckH [(0, 10, 15, 4, 3), (0, 10, 19, 4, 0)] 5 (c 117 [aR (11, j, t), aI a0, aI a1] S) (fun v S' => ev c 116 8 [l0, l1, l2, l3, l4] [] (v.toList ++ [t0, t1]) S') (fun a b S' => ev c 116 a ([l0, l1, l2, l3, l4].set b none) [] [] S') := ev_callH rfl (fun E a b h9 => hnd_lt rfl h9) i116_5 rfl
theorem i116_8 : insAt 116 8 = some (.i2l, 1, (0, 0, 0, 0), 0) := rfl
theorem s116_8 {c : Nat → List AV → SS → Option Out} {l0 l1 l2 l3 l4 : Option AV} {x : Int32} {L2 : List (Nat × AV)} {St : List AV} {S : SS} : ev c 116 8 [l0, l1, l2, l3, l4] L2 (aI x :: St) S = ev c 116 9 [l0, l1, l2, l3, l4] L2 (aL x.toInt64 :: St) S := ev_go i116_8 rfl
theorem i116_9 : insAt 116 9 = some (.lastore, 1, (0, 0, 0, 0), 0) := rfl
theorem s116_9 {c : Nat → List AV → SS → Option Out} {l0 l1 l2 l3 l4 : Option AV} {x : Int64} {i : Int32} {o : OId} {L2 : List (Nat × AV)} {St : List AV} {S : SS} : ev c 116 9 [l0, l1, l2, l3, l4] L2 (aL x :: aI i :: aR o :: St) S = kJ o i (ev c 116 10 [l0, l1, l2, l3, l4] L2 St (S.1, setV S.2.1 o i.toNatClampNeg (aL x), S.2.2)) := ev_lastore i116_9
theorem i116_10 : insAt 116 10 = some (.goto 11, 3, (0, 0, 0, 0), 0) := rfl
theorem s116_10 {c : Nat → List AV → SS → Option Out} {l0 l1 l2 l3 l4 : Option AV} {L2 : List (Nat × AV)} {St : List AV} {S : SS} : ev c 116 10 [l0, l1, l2, l3, l4] L2 St S = ev c 116 21 [l0, l1, l2, l3, l4] L2 St S := ev_go i116_10 rfl
theorem i116_15 : insAt 116 15 = some (.iconst 1, 1, (0, 0, 0, 0), 0) := rfl
theorem s116_15 {c : Nat → List AV → SS → Option Out} {l0 l1 l2 l3 l4 : Option AV} {L2 : List (Nat × AV)} {St : List AV} {S : SS} : ev c 116 15 [l0, l1, l2, l3, l4] L2 St S = ev c 116 16 [l0, l1, l2, l3, l4] L2 (aI 1 :: St) S := ev_go i116_15 rfl
theorem i116_16 : insAt 116 16 = some (.ireturn, 1, (0, 0, 0, 0), 0) := rfl
theorem s116_16 {c : Nat → List AV → SS → Option Out} {l0 l1 l2 l3 l4 : Option AV} {x : Int32} {L2 : List (Nat × AV)} {S : SS} : ev c 116 16 [l0, l1, l2, l3, l4] L2 [aI x] S = some (.inl (some (aI x)), S) := ev_end i116_16 rfl
theorem i116_19 : insAt 116 19 = some (.iconst 2, 1, (0, 0, 0, 0), 0) := rfl
theorem s116_19 {c : Nat → List AV → SS → Option Out} {l0 l1 l2 l3 l4 : Option AV} {L2 : List (Nat × AV)} {St : List AV} {S : SS} : ev c 116 19 [l0, l1, l2, l3, l4] L2 St S = ev c 116 20 [l0, l1, l2, l3, l4] L2 (aI 2 :: St) S := ev_go i116_19 rfl
theorem i116_20 : insAt 116 20 = some (.ireturn, 1, (0, 0, 0, 0), 0) := rfl
theorem s116_20 {c : Nat → List AV → SS → Option Out} {l0 l1 l2 l3 l4 : Option AV} {x : Int32} {L2 : List (Nat × AV)} {S : SS} : ev c 116 20 [l0, l1, l2, l3, l4] L2 [aI x] S = some (.inl (some (aI x)), S) := ev_end i116_20 rfl
theorem i116_21 : insAt 116 21 = some (.iconst 0, 1, (0, 0, 0, 0), 0) := rfl
theorem s116_21 {c : Nat → List AV → SS → Option Out} {l0 l1 l2 l3 l4 : Option AV} {L2 : List (Nat × AV)} {St : List AV} {S : SS} : ev c 116 21 [l0, l1, l2, l3, l4] L2 St S = ev c 116 22 [l0, l1, l2, l3, l4] L2 (aI 0 :: St) S := ev_go i116_21 rfl
theorem i116_22 : insAt 116 22 = some (.ireturn, 1, (0, 0, 0, 0), 0) := rfl
theorem s116_22 {c : Nat → List AV → SS → Option Out} {l0 l1 l2 l3 l4 : Option AV} {x : Int32} {L2 : List (Nat × AV)} {S : SS} : ev c 116 22 [l0, l1, l2, l3, l4] L2 [aI x] S = some (.inl (some (aI x)), S) := ev_end i116_22 rfl
theorem m116 {d : Nat} {a0 : OId} {a1 : Int32} {a2 : Int32} {a3 : OId} {S : SS} : evm (d + 1) 116 [aR a0, aI a1, aI a2, aR a3] S = ev (evm d) 116 0 [some (aR a0), some (aI a1), some (aI a2), some (aR a3), none] [] [] S := evm_s (n := 5) rfl (Nat.le_of_ble_eq_true rfl) rfl rfl
/-! FrequencyOfficeLaw.baseSeparation(LFrequencyOffice;II[J)I -/
theorem i120_0 : insAt 120 0 = some (.aload_n 3, 1, (0, 0, 0, 0), 0) := rfl
theorem s120_0 {c : Nat → List AV → SS → Option Out} {l0 l1 l2 l4 : Option AV} {o : OId} {L2 : List (Nat × AV)} {St : List AV} {S : SS} : ev c 120 0 [l0, l1, l2, some (aR o), l4] L2 St S = ev c 120 1 [l0, l1, l2, some (aR o), l4] L2 (aR o :: St) S := ev_go i120_0 rfl
theorem i120_1 : insAt 120 1 = some (.iconst 0, 1, (0, 0, 0, 0), 0) := rfl
theorem s120_1 {c : Nat → List AV → SS → Option Out} {l0 l1 l2 l3 l4 : Option AV} {L2 : List (Nat × AV)} {St : List AV} {S : SS} : ev c 120 1 [l0, l1, l2, l3, l4] L2 St S = ev c 120 2 [l0, l1, l2, l3, l4] L2 (aI 0 :: St) S := ev_go i120_1 rfl
theorem i120_2 : insAt 120 2 = some (.aload_n 0, 1, (0, 0, 0, 0), 0) := rfl
theorem s120_2 {c : Nat → List AV → SS → Option Out} {l1 l2 l3 l4 : Option AV} {o : OId} {L2 : List (Nat × AV)} {St : List AV} {S : SS} : ev c 120 2 [some (aR o), l1, l2, l3, l4] L2 St S = ev c 120 3 [some (aR o), l1, l2, l3, l4] L2 (aR o :: St) S := ev_go i120_2 rfl
theorem i120_3 : insAt 120 3 = some (.iload_n 1, 1, (0, 0, 0, 0), 0) := rfl
theorem s120_3 {c : Nat → List AV → SS → Option Out} {l0 l2 l3 l4 : Option AV} {x : Int32} {L2 : List (Nat × AV)} {St : List AV} {S : SS} : ev c 120 3 [l0, some (aI x), l2, l3, l4] L2 St S = ev c 120 4 [l0, some (aI x), l2, l3, l4] L2 (aI x :: St) S := ev_go i120_3 rfl
theorem i120_4 : insAt 120 4 = some (.iload_n 2, 1, (0, 0, 0, 0), 0) := rfl
theorem s120_4 {c : Nat → List AV → SS → Option Out} {l0 l1 l3 l4 : Option AV} {x : Int32} {L2 : List (Nat × AV)} {St : List AV} {S : SS} : ev c 120 4 [l0, l1, some (aI x), l3, l4] L2 St S = ev c 120 5 [l0, l1, some (aI x), l3, l4] L2 (aI x :: St) S := ev_go i120_4 rfl
theorem i120_5 : insAt 120 5 = some (.invokevirtual 68, 3, (121, 2, 2, 11), 245) := rfl
theorem s120_5 {c : Nat → List AV → SS → Option Out} {l0 l1 l2 l3 l4 : Option AV} {t0 t1 : AV} {a0 : Int32} {a1 : Int32} {j t : Nat} {S : SS} : ev c 120 5 [l0, l1, l2, l3, l4] [] [aI a1, aI a0, aR (11, j, t), t0, t1] S = ckH [(0, 10, 15, 4, 3), (0, 10, 19, 4, 0)] 5 (c 121 [aR (11, j, t), aI a0, aI a1] S) (fun v S' => ev c 120 8 [l0, l1, l2, l3, l4] [] (v.toList ++ [t0, t1]) S') (fun a b S' => ev c 120 a ([l0, l1, l2, l3, l4].set b none) [] [] S') := ev_callH rfl (fun E a b h9 => hnd_lt rfl h9) i120_5 rfl
theorem i120_8 : insAt 120 8 = some (.i2l, 1, (0, 0, 0, 0), 0) := rfl
theorem s120_8 {c : Nat → List AV → SS → Option Out} {l0 l1 l2 l3 l4 : Option AV} {x : Int32} {L2 : List (Nat × AV)} {St : List AV} {S : SS} : ev c 120 8 [l0, l1, l2, l3, l4] L2 (aI x :: St) S = ev c 120 9 [l0, l1, l2, l3, l4] L2 (aL x.toInt64 :: St) S := ev_go i120_8 rfl
theorem i120_9 : insAt 120 9 = some (.lastore, 1, (0, 0, 0, 0), 0) := rfl
theorem s120_9 {c : Nat → List AV → SS → Option Out} {l0 l1 l2 l3 l4 : Option AV} {x : Int64} {i : Int32} {o : OId} {L2 : List (Nat × AV)} {St : List AV} {S : SS} : ev c 120 9 [l0, l1, l2, l3, l4] L2 (aL x :: aI i :: aR o :: St) S = kJ o i (ev c 120 10 [l0, l1, l2, l3, l4] L2 St (S.1, setV S.2.1 o i.toNatClampNeg (aL x), S.2.2)) := ev_lastore i120_9
theorem i120_10 : insAt 120 10 = some (.goto 11, 3, (0, 0, 0, 0), 0) := rfl
theorem s120_10 {c : Nat → List AV → SS → Option Out} {l0 l1 l2 l3 l4 : Option AV} {L2 : List (Nat × AV)} {St : List AV} {S : SS} : ev c 120 10 [l0, l1, l2, l3, l4] L2 St S = ev c 120 21 [l0, l1, l2, l3, l4] L2 St S := ev_go i120_10 rfl
theorem i120_15 : insAt 120 15 = some (.iconst 1, 1, (0, 0, 0, 0), 0) := rfl
theorem s120_15 {c : Nat → List AV → SS → Option Out} {l0 l1 l2 l3 l4 : Option AV} {L2 : List (Nat × AV)} {St : List AV} {S : SS} : ev c 120 15 [l0, l1, l2, l3, l4] L2 St S = ev c 120 16 [l0, l1, l2, l3, l4] L2 (aI 1 :: St) S := ev_go i120_15 rfl
theorem i120_16 : insAt 120 16 = some (.ireturn, 1, (0, 0, 0, 0), 0) := rfl
theorem s120_16 {c : Nat → List AV → SS → Option Out} {l0 l1 l2 l3 l4 : Option AV} {x : Int32} {L2 : List (Nat × AV)} {S : SS} : ev c 120 16 [l0, l1, l2, l3, l4] L2 [aI x] S = some (.inl (some (aI x)), S) := ev_end i120_16 rfl
theorem i120_19 : insAt 120 19 = some (.iconst 2, 1, (0, 0, 0, 0), 0) := rfl
theorem s120_19 {c : Nat → List AV → SS → Option Out} {l0 l1 l2 l3 l4 : Option AV} {L2 : List (Nat × AV)} {St : List AV} {S : SS} : ev c 120 19 [l0, l1, l2, l3, l4] L2 St S = ev c 120 20 [l0, l1, l2, l3, l4] L2 (aI 2 :: St) S := ev_go i120_19 rfl
theorem i120_20 : insAt 120 20 = some (.ireturn, 1, (0, 0, 0, 0), 0) := rfl
theorem s120_20 {c : Nat → List AV → SS → Option Out} {l0 l1 l2 l3 l4 : Option AV} {x : Int32} {L2 : List (Nat × AV)} {S : SS} : ev c 120 20 [l0, l1, l2, l3, l4] L2 [aI x] S = some (.inl (some (aI x)), S) := ev_end i120_20 rfl
theorem i120_21 : insAt 120 21 = some (.iconst 0, 1, (0, 0, 0, 0), 0) := rfl
theorem s120_21 {c : Nat → List AV → SS → Option Out} {l0 l1 l2 l3 l4 : Option AV} {L2 : List (Nat × AV)} {St : List AV} {S : SS} : ev c 120 21 [l0, l1, l2, l3, l4] L2 St S = ev c 120 22 [l0, l1, l2, l3, l4] L2 (aI 0 :: St) S := ev_go i120_21 rfl
theorem i120_22 : insAt 120 22 = some (.ireturn, 1, (0, 0, 0, 0), 0) := rfl
theorem s120_22 {c : Nat → List AV → SS → Option Out} {l0 l1 l2 l3 l4 : Option AV} {x : Int32} {L2 : List (Nat × AV)} {S : SS} : ev c 120 22 [l0, l1, l2, l3, l4] L2 [aI x] S = some (.inl (some (aI x)), S) := ev_end i120_22 rfl
theorem m120 {d : Nat} {a0 : OId} {a1 : Int32} {a2 : Int32} {a3 : OId} {S : SS} : evm (d + 1) 120 [aR a0, aI a1, aI a2, aR a3] S = ev (evm d) 120 0 [some (aR a0), some (aI a1), some (aI a2), some (aR a3), none] [] [] S := evm_s (n := 5) rfl (Nat.le_of_ble_eq_true rfl) rfl rfl
/-! FrequencyOfficeLaw.complaintCount(LFrequencyOffice;II[J)I -/
theorem i122_0 : insAt 122 0 = some (.aload_n 3, 1, (0, 0, 0, 0), 0) := rfl
theorem s122_0 {c : Nat → List AV → SS → Option Out} {l0 l1 l2 l4 : Option AV} {o : OId} {L2 : List (Nat × AV)} {St : List AV} {S : SS} : ev c 122 0 [l0, l1, l2, some (aR o), l4] L2 St S = ev c 122 1 [l0, l1, l2, some (aR o), l4] L2 (aR o :: St) S := ev_go i122_0 rfl
theorem i122_1 : insAt 122 1 = some (.iconst 0, 1, (0, 0, 0, 0), 0) := rfl
theorem s122_1 {c : Nat → List AV → SS → Option Out} {l0 l1 l2 l3 l4 : Option AV} {L2 : List (Nat × AV)} {St : List AV} {S : SS} : ev c 122 1 [l0, l1, l2, l3, l4] L2 St S = ev c 122 2 [l0, l1, l2, l3, l4] L2 (aI 0 :: St) S := ev_go i122_1 rfl
theorem i122_2 : insAt 122 2 = some (.aload_n 0, 1, (0, 0, 0, 0), 0) := rfl
theorem s122_2 {c : Nat → List AV → SS → Option Out} {l1 l2 l3 l4 : Option AV} {o : OId} {L2 : List (Nat × AV)} {St : List AV} {S : SS} : ev c 122 2 [some (aR o), l1, l2, l3, l4] L2 St S = ev c 122 3 [some (aR o), l1, l2, l3, l4] L2 (aR o :: St) S := ev_go i122_2 rfl
theorem i122_3 : insAt 122 3 = some (.iload_n 1, 1, (0, 0, 0, 0), 0) := rfl
theorem s122_3 {c : Nat → List AV → SS → Option Out} {l0 l2 l3 l4 : Option AV} {x : Int32} {L2 : List (Nat × AV)} {St : List AV} {S : SS} : ev c 122 3 [l0, some (aI x), l2, l3, l4] L2 St S = ev c 122 4 [l0, some (aI x), l2, l3, l4] L2 (aI x :: St) S := ev_go i122_3 rfl
theorem i122_4 : insAt 122 4 = some (.iload_n 2, 1, (0, 0, 0, 0), 0) := rfl
theorem s122_4 {c : Nat → List AV → SS → Option Out} {l0 l1 l3 l4 : Option AV} {x : Int32} {L2 : List (Nat × AV)} {St : List AV} {S : SS} : ev c 122 4 [l0, l1, some (aI x), l3, l4] L2 St S = ev c 122 5 [l0, l1, some (aI x), l3, l4] L2 (aI x :: St) S := ev_go i122_4 rfl
theorem i122_5 : insAt 122 5 = some (.invokevirtual 71, 3, (123, 2, 2, 11), 247) := rfl
theorem s122_5 {c : Nat → List AV → SS → Option Out} {l0 l1 l2 l3 l4 : Option AV} {t0 t1 : AV} {a0 : Int32} {a1 : Int32} {j t : Nat} {S : SS} : ev c 122 5 [l0, l1, l2, l3, l4] [] [aI a1, aI a0, aR (11, j, t), t0, t1] S = ckH [(0, 10, 15, 4, 3), (0, 10, 19, 4, 0)] 5 (c 123 [aR (11, j, t), aI a0, aI a1] S) (fun v S' => ev c 122 8 [l0, l1, l2, l3, l4] [] (v.toList ++ [t0, t1]) S') (fun a b S' => ev c 122 a ([l0, l1, l2, l3, l4].set b none) [] [] S') := ev_callH rfl (fun E a b h9 => hnd_lt rfl h9) i122_5 rfl
theorem i122_8 : insAt 122 8 = some (.i2l, 1, (0, 0, 0, 0), 0) := rfl
theorem s122_8 {c : Nat → List AV → SS → Option Out} {l0 l1 l2 l3 l4 : Option AV} {x : Int32} {L2 : List (Nat × AV)} {St : List AV} {S : SS} : ev c 122 8 [l0, l1, l2, l3, l4] L2 (aI x :: St) S = ev c 122 9 [l0, l1, l2, l3, l4] L2 (aL x.toInt64 :: St) S := ev_go i122_8 rfl
theorem i122_9 : insAt 122 9 = some (.lastore, 1, (0, 0, 0, 0), 0) := rfl
theorem s122_9 {c : Nat → List AV → SS → Option Out} {l0 l1 l2 l3 l4 : Option AV} {x : Int64} {i : Int32} {o : OId} {L2 : List (Nat × AV)} {St : List AV} {S : SS} : ev c 122 9 [l0, l1, l2, l3, l4] L2 (aL x :: aI i :: aR o :: St) S = kJ o i (ev c 122 10 [l0, l1, l2, l3, l4] L2 St (S.1, setV S.2.1 o i.toNatClampNeg (aL x), S.2.2)) := ev_lastore i122_9
theorem i122_10 : insAt 122 10 = some (.goto 11, 3, (0, 0, 0, 0), 0) := rfl
theorem s122_10 {c : Nat → List AV → SS → Option Out} {l0 l1 l2 l3 l4 : Option AV} {L2 : List (Nat × AV)} {St : List AV} {S : SS} : ev c 122 10 [l0, l1, l2, l3, l4] L2 St S = ev c 122 21 [l0, l1, l2, l3, l4] L2 St S := ev_go i122_10 rfl
theorem i122_15 : insAt 122 15 = some (.iconst 1, 1, (0, 0, 0, 0), 0) := rfl
theorem s122_15 {c : Nat → List AV → SS → Option Out} {l0 l1 l2 l3 l4 : Option AV} {L2 : List (Nat × AV)} {St : List AV} {S : SS} : ev c 122 15 [l0, l1, l2, l3, l4] L2 St S = ev c 122 16 [l0, l1, l2, l3, l4] L2 (aI 1 :: St) S := ev_go i122_15 rfl
theorem i122_16 : insAt 122 16 = some (.ireturn, 1, (0, 0, 0, 0), 0) := rfl
theorem s122_16 {c : Nat → List AV → SS → Option Out} {l0 l1 l2 l3 l4 : Option AV} {x : Int32} {L2 : List (Nat × AV)} {S : SS} : ev c 122 16 [l0, l1, l2, l3, l4] L2 [aI x] S = some (.inl (some (aI x)), S) := ev_end i122_16 rfl
theorem i122_19 : insAt 122 19 = some (.iconst 2, 1, (0, 0, 0, 0), 0) := rfl
theorem s122_19 {c : Nat → List AV → SS → Option Out} {l0 l1 l2 l3 l4 : Option AV} {L2 : List (Nat × AV)} {St : List AV} {S : SS} : ev c 122 19 [l0, l1, l2, l3, l4] L2 St S = ev c 122 20 [l0, l1, l2, l3, l4] L2 (aI 2 :: St) S := ev_go i122_19 rfl
theorem i122_20 : insAt 122 20 = some (.ireturn, 1, (0, 0, 0, 0), 0) := rfl
theorem s122_20 {c : Nat → List AV → SS → Option Out} {l0 l1 l2 l3 l4 : Option AV} {x : Int32} {L2 : List (Nat × AV)} {S : SS} : ev c 122 20 [l0, l1, l2, l3, l4] L2 [aI x] S = some (.inl (some (aI x)), S) := ev_end i122_20 rfl
theorem i122_21 : insAt 122 21 = some (.iconst 0, 1, (0, 0, 0, 0), 0) := rfl
theorem s122_21 {c : Nat → List AV → SS → Option Out} {l0 l1 l2 l3 l4 : Option AV} {L2 : List (Nat × AV)} {St : List AV} {S : SS} : ev c 122 21 [l0, l1, l2, l3, l4] L2 St S = ev c 122 22 [l0, l1, l2, l3, l4] L2 (aI 0 :: St) S := ev_go i122_21 rfl
theorem i122_22 : insAt 122 22 = some (.ireturn, 1, (0, 0, 0, 0), 0) := rfl
theorem s122_22 {c : Nat → List AV → SS → Option Out} {l0 l1 l2 l3 l4 : Option AV} {x : Int32} {L2 : List (Nat × AV)} {S : SS} : ev c 122 22 [l0, l1, l2, l3, l4] L2 [aI x] S = some (.inl (some (aI x)), S) := ev_end i122_22 rfl
theorem m122 {d : Nat} {a0 : OId} {a1 : Int32} {a2 : Int32} {a3 : OId} {S : SS} : evm (d + 1) 122 [aR a0, aI a1, aI a2, aR a3] S = ev (evm d) 122 0 [some (aR a0), some (aI a1), some (aI a2), some (aR a3), none] [] [] S := evm_s (n := 5) rfl (Nat.le_of_ble_eq_true rfl) rfl rfl
/-! FrequencyOfficeLaw.separation(LFrequencyOffice;II[J)I -/
theorem i124_0 : insAt 124 0 = some (.aload_n 3, 1, (0, 0, 0, 0), 0) := rfl
theorem s124_0 {c : Nat → List AV → SS → Option Out} {l0 l1 l2 l4 : Option AV} {o : OId} {L2 : List (Nat × AV)} {St : List AV} {S : SS} : ev c 124 0 [l0, l1, l2, some (aR o), l4] L2 St S = ev c 124 1 [l0, l1, l2, some (aR o), l4] L2 (aR o :: St) S := ev_go i124_0 rfl
theorem i124_1 : insAt 124 1 = some (.iconst 0, 1, (0, 0, 0, 0), 0) := rfl
theorem s124_1 {c : Nat → List AV → SS → Option Out} {l0 l1 l2 l3 l4 : Option AV} {L2 : List (Nat × AV)} {St : List AV} {S : SS} : ev c 124 1 [l0, l1, l2, l3, l4] L2 St S = ev c 124 2 [l0, l1, l2, l3, l4] L2 (aI 0 :: St) S := ev_go i124_1 rfl
theorem i124_2 : insAt 124 2 = some (.aload_n 0, 1, (0, 0, 0, 0), 0) := rfl
theorem s124_2 {c : Nat → List AV → SS → Option Out} {l1 l2 l3 l4 : Option AV} {o : OId} {L2 : List (Nat × AV)} {St : List AV} {S : SS} : ev c 124 2 [some (aR o), l1, l2, l3, l4] L2 St S = ev c 124 3 [some (aR o), l1, l2, l3, l4] L2 (aR o :: St) S := ev_go i124_2 rfl
theorem i124_3 : insAt 124 3 = some (.iload_n 1, 1, (0, 0, 0, 0), 0) := rfl
theorem s124_3 {c : Nat → List AV → SS → Option Out} {l0 l2 l3 l4 : Option AV} {x : Int32} {L2 : List (Nat × AV)} {St : List AV} {S : SS} : ev c 124 3 [l0, some (aI x), l2, l3, l4] L2 St S = ev c 124 4 [l0, some (aI x), l2, l3, l4] L2 (aI x :: St) S := ev_go i124_3 rfl
theorem i124_4 : insAt 124 4 = some (.iload_n 2, 1, (0, 0, 0, 0), 0) := rfl
theorem s124_4 {c : Nat → List AV → SS → Option Out} {l0 l1 l3 l4 : Option AV} {x : Int32} {L2 : List (Nat × AV)} {St : List AV} {S : SS} : ev c 124 4 [l0, l1, some (aI x), l3, l4] L2 St S = ev c 124 5 [l0, l1, some (aI x), l3, l4] L2 (aI x :: St) S := ev_go i124_4 rfl
theorem i124_5 : insAt 124 5 = some (.invokevirtual 74, 3, (125, 2, 2, 11), 249) := rfl
theorem s124_5 {c : Nat → List AV → SS → Option Out} {l0 l1 l2 l3 l4 : Option AV} {t0 t1 : AV} {a0 : Int32} {a1 : Int32} {j t : Nat} {S : SS} : ev c 124 5 [l0, l1, l2, l3, l4] [] [aI a1, aI a0, aR (11, j, t), t0, t1] S = ckH [(0, 10, 15, 4, 3), (0, 10, 19, 4, 0)] 5 (c 125 [aR (11, j, t), aI a0, aI a1] S) (fun v S' => ev c 124 8 [l0, l1, l2, l3, l4] [] (v.toList ++ [t0, t1]) S') (fun a b S' => ev c 124 a ([l0, l1, l2, l3, l4].set b none) [] [] S') := ev_callH rfl (fun E a b h9 => hnd_lt rfl h9) i124_5 rfl
theorem i124_8 : insAt 124 8 = some (.i2l, 1, (0, 0, 0, 0), 0) := rfl
theorem s124_8 {c : Nat → List AV → SS → Option Out} {l0 l1 l2 l3 l4 : Option AV} {x : Int32} {L2 : List (Nat × AV)} {St : List AV} {S : SS} : ev c 124 8 [l0, l1, l2, l3, l4] L2 (aI x :: St) S = ev c 124 9 [l0, l1, l2, l3, l4] L2 (aL x.toInt64 :: St) S := ev_go i124_8 rfl
theorem i124_9 : insAt 124 9 = some (.lastore, 1, (0, 0, 0, 0), 0) := rfl
theorem s124_9 {c : Nat → List AV → SS → Option Out} {l0 l1 l2 l3 l4 : Option AV} {x : Int64} {i : Int32} {o : OId} {L2 : List (Nat × AV)} {St : List AV} {S : SS} : ev c 124 9 [l0, l1, l2, l3, l4] L2 (aL x :: aI i :: aR o :: St) S = kJ o i (ev c 124 10 [l0, l1, l2, l3, l4] L2 St (S.1, setV S.2.1 o i.toNatClampNeg (aL x), S.2.2)) := ev_lastore i124_9
theorem i124_10 : insAt 124 10 = some (.goto 11, 3, (0, 0, 0, 0), 0) := rfl
theorem s124_10 {c : Nat → List AV → SS → Option Out} {l0 l1 l2 l3 l4 : Option AV} {L2 : List (Nat × AV)} {St : List AV} {S : SS} : ev c 124 10 [l0, l1, l2, l3, l4] L2 St S = ev c 124 21 [l0, l1, l2, l3, l4] L2 St S := ev_go i124_10 rfl
theorem i124_15 : insAt 124 15 = some (.iconst 1, 1, (0, 0, 0, 0), 0) := rfl
theorem s124_15 {c : Nat → List AV → SS → Option Out} {l0 l1 l2 l3 l4 : Option AV} {L2 : List (Nat × AV)} {St : List AV} {S : SS} : ev c 124 15 [l0, l1, l2, l3, l4] L2 St S = ev c 124 16 [l0, l1, l2, l3, l4] L2 (aI 1 :: St) S := ev_go i124_15 rfl
theorem i124_16 : insAt 124 16 = some (.ireturn, 1, (0, 0, 0, 0), 0) := rfl
theorem s124_16 {c : Nat → List AV → SS → Option Out} {l0 l1 l2 l3 l4 : Option AV} {x : Int32} {L2 : List (Nat × AV)} {S : SS} : ev c 124 16 [l0, l1, l2, l3, l4] L2 [aI x] S = some (.inl (some (aI x)), S) := ev_end i124_16 rfl
theorem i124_19 : insAt 124 19 = some (.iconst 2, 1, (0, 0, 0, 0), 0) := rfl
theorem s124_19 {c : Nat → List AV → SS → Option Out} {l0 l1 l2 l3 l4 : Option AV} {L2 : List (Nat × AV)} {St : List AV} {S : SS} : ev c 124 19 [l0, l1, l2, l3, l4] L2 St S = ev c 124 20 [l0, l1, l2, l3, l4] L2 (aI 2 :: St) S := ev_go i124_19 rfl
theorem i124_20 : insAt 124 20 = some (.ireturn, 1, (0, 0, 0, 0), 0) := rfl
theorem s124_20 {c : Nat → List AV → SS → Option Out} {l0 l1 l2 l3 l4 : Option AV} {x : Int32} {L2 : List (Nat × AV)} {S : SS} : ev c 124 20 [l0, l1, l2, l3, l4] L2 [aI x] S = some (.inl (some (aI x)), S) := ev_end i124_20 rfl
theorem i124_21 : insAt 124 21 = some (.iconst 0, 1, (0, 0, 0, 0), 0) := rfl
theorem s124_21 {c : Nat → List AV → SS → Option Out} {l0 l1 l2 l3 l4 : Option AV} {L2 : List (Nat × AV)} {St : List AV} {S : SS} : ev c 124 21 [l0, l1, l2, l3, l4] L2 St S = ev c 124 22 [l0, l1, l2, l3, l4] L2 (aI 0 :: St) S := ev_go i124_21 rfl
theorem i124_22 : insAt 124 22 = some (.ireturn, 1, (0, 0, 0, 0), 0) := rfl
theorem s124_22 {c : Nat → List AV → SS → Option Out} {l0 l1 l2 l3 l4 : Option AV} {x : Int32} {L2 : List (Nat × AV)} {S : SS} : ev c 124 22 [l0, l1, l2, l3, l4] L2 [aI x] S = some (.inl (some (aI x)), S) := ev_end i124_22 rfl
theorem m124 {d : Nat} {a0 : OId} {a1 : Int32} {a2 : Int32} {a3 : OId} {S : SS} : evm (d + 1) 124 [aR a0, aI a1, aI a2, aR a3] S = ev (evm d) 124 0 [some (aR a0), some (aI a1), some (aI a2), some (aR a3), none] [] [] S := evm_s (n := 5) rfl (Nat.le_of_ble_eq_true rfl) rfl rfl
/-! FrequencyOfficeLaw.margin(LFrequencyOffice;II[J)I -/
theorem i126_0 : insAt 126 0 = some (.aload_n 3, 1, (0, 0, 0, 0), 0) := rfl
theorem s126_0 {c : Nat → List AV → SS → Option Out} {l0 l1 l2 l4 : Option AV} {o : OId} {L2 : List (Nat × AV)} {St : List AV} {S : SS} : ev c 126 0 [l0, l1, l2, some (aR o), l4] L2 St S = ev c 126 1 [l0, l1, l2, some (aR o), l4] L2 (aR o :: St) S := ev_go i126_0 rfl
theorem i126_1 : insAt 126 1 = some (.iconst 0, 1, (0, 0, 0, 0), 0) := rfl
theorem s126_1 {c : Nat → List AV → SS → Option Out} {l0 l1 l2 l3 l4 : Option AV} {L2 : List (Nat × AV)} {St : List AV} {S : SS} : ev c 126 1 [l0, l1, l2, l3, l4] L2 St S = ev c 126 2 [l0, l1, l2, l3, l4] L2 (aI 0 :: St) S := ev_go i126_1 rfl
theorem i126_2 : insAt 126 2 = some (.aload_n 0, 1, (0, 0, 0, 0), 0) := rfl
theorem s126_2 {c : Nat → List AV → SS → Option Out} {l1 l2 l3 l4 : Option AV} {o : OId} {L2 : List (Nat × AV)} {St : List AV} {S : SS} : ev c 126 2 [some (aR o), l1, l2, l3, l4] L2 St S = ev c 126 3 [some (aR o), l1, l2, l3, l4] L2 (aR o :: St) S := ev_go i126_2 rfl
theorem i126_3 : insAt 126 3 = some (.iload_n 1, 1, (0, 0, 0, 0), 0) := rfl
theorem s126_3 {c : Nat → List AV → SS → Option Out} {l0 l2 l3 l4 : Option AV} {x : Int32} {L2 : List (Nat × AV)} {St : List AV} {S : SS} : ev c 126 3 [l0, some (aI x), l2, l3, l4] L2 St S = ev c 126 4 [l0, some (aI x), l2, l3, l4] L2 (aI x :: St) S := ev_go i126_3 rfl
theorem i126_4 : insAt 126 4 = some (.iload_n 2, 1, (0, 0, 0, 0), 0) := rfl
theorem s126_4 {c : Nat → List AV → SS → Option Out} {l0 l1 l3 l4 : Option AV} {x : Int32} {L2 : List (Nat × AV)} {St : List AV} {S : SS} : ev c 126 4 [l0, l1, some (aI x), l3, l4] L2 St S = ev c 126 5 [l0, l1, some (aI x), l3, l4] L2 (aI x :: St) S := ev_go i126_4 rfl
theorem i126_5 : insAt 126 5 = some (.invokevirtual 77, 3, (127, 2, 2, 11), 251) := rfl
theorem s126_5 {c : Nat → List AV → SS → Option Out} {l0 l1 l2 l3 l4 : Option AV} {t0 t1 : AV} {a0 : Int32} {a1 : Int32} {j t : Nat} {S : SS} : ev c 126 5 [l0, l1, l2, l3, l4] [] [aI a1, aI a0, aR (11, j, t), t0, t1] S = ckH [(0, 10, 15, 4, 3), (0, 10, 19, 4, 0)] 5 (c 127 [aR (11, j, t), aI a0, aI a1] S) (fun v S' => ev c 126 8 [l0, l1, l2, l3, l4] [] (v.toList ++ [t0, t1]) S') (fun a b S' => ev c 126 a ([l0, l1, l2, l3, l4].set b none) [] [] S') := ev_callH rfl (fun E a b h9 => hnd_lt rfl h9) i126_5 rfl
theorem i126_8 : insAt 126 8 = some (.i2l, 1, (0, 0, 0, 0), 0) := rfl
theorem s126_8 {c : Nat → List AV → SS → Option Out} {l0 l1 l2 l3 l4 : Option AV} {x : Int32} {L2 : List (Nat × AV)} {St : List AV} {S : SS} : ev c 126 8 [l0, l1, l2, l3, l4] L2 (aI x :: St) S = ev c 126 9 [l0, l1, l2, l3, l4] L2 (aL x.toInt64 :: St) S := ev_go i126_8 rfl
theorem i126_9 : insAt 126 9 = some (.lastore, 1, (0, 0, 0, 0), 0) := rfl
theorem s126_9 {c : Nat → List AV → SS → Option Out} {l0 l1 l2 l3 l4 : Option AV} {x : Int64} {i : Int32} {o : OId} {L2 : List (Nat × AV)} {St : List AV} {S : SS} : ev c 126 9 [l0, l1, l2, l3, l4] L2 (aL x :: aI i :: aR o :: St) S = kJ o i (ev c 126 10 [l0, l1, l2, l3, l4] L2 St (S.1, setV S.2.1 o i.toNatClampNeg (aL x), S.2.2)) := ev_lastore i126_9
theorem i126_10 : insAt 126 10 = some (.goto 11, 3, (0, 0, 0, 0), 0) := rfl
theorem s126_10 {c : Nat → List AV → SS → Option Out} {l0 l1 l2 l3 l4 : Option AV} {L2 : List (Nat × AV)} {St : List AV} {S : SS} : ev c 126 10 [l0, l1, l2, l3, l4] L2 St S = ev c 126 21 [l0, l1, l2, l3, l4] L2 St S := ev_go i126_10 rfl
theorem i126_15 : insAt 126 15 = some (.iconst 1, 1, (0, 0, 0, 0), 0) := rfl
theorem s126_15 {c : Nat → List AV → SS → Option Out} {l0 l1 l2 l3 l4 : Option AV} {L2 : List (Nat × AV)} {St : List AV} {S : SS} : ev c 126 15 [l0, l1, l2, l3, l4] L2 St S = ev c 126 16 [l0, l1, l2, l3, l4] L2 (aI 1 :: St) S := ev_go i126_15 rfl
theorem i126_16 : insAt 126 16 = some (.ireturn, 1, (0, 0, 0, 0), 0) := rfl
theorem s126_16 {c : Nat → List AV → SS → Option Out} {l0 l1 l2 l3 l4 : Option AV} {x : Int32} {L2 : List (Nat × AV)} {S : SS} : ev c 126 16 [l0, l1, l2, l3, l4] L2 [aI x] S = some (.inl (some (aI x)), S) := ev_end i126_16 rfl
theorem i126_19 : insAt 126 19 = some (.iconst 2, 1, (0, 0, 0, 0), 0) := rfl
theorem s126_19 {c : Nat → List AV → SS → Option Out} {l0 l1 l2 l3 l4 : Option AV} {L2 : List (Nat × AV)} {St : List AV} {S : SS} : ev c 126 19 [l0, l1, l2, l3, l4] L2 St S = ev c 126 20 [l0, l1, l2, l3, l4] L2 (aI 2 :: St) S := ev_go i126_19 rfl
theorem i126_20 : insAt 126 20 = some (.ireturn, 1, (0, 0, 0, 0), 0) := rfl
theorem s126_20 {c : Nat → List AV → SS → Option Out} {l0 l1 l2 l3 l4 : Option AV} {x : Int32} {L2 : List (Nat × AV)} {S : SS} : ev c 126 20 [l0, l1, l2, l3, l4] L2 [aI x] S = some (.inl (some (aI x)), S) := ev_end i126_20 rfl
theorem i126_21 : insAt 126 21 = some (.iconst 0, 1, (0, 0, 0, 0), 0) := rfl
theorem s126_21 {c : Nat → List AV → SS → Option Out} {l0 l1 l2 l3 l4 : Option AV} {L2 : List (Nat × AV)} {St : List AV} {S : SS} : ev c 126 21 [l0, l1, l2, l3, l4] L2 St S = ev c 126 22 [l0, l1, l2, l3, l4] L2 (aI 0 :: St) S := ev_go i126_21 rfl
theorem i126_22 : insAt 126 22 = some (.ireturn, 1, (0, 0, 0, 0), 0) := rfl
theorem s126_22 {c : Nat → List AV → SS → Option Out} {l0 l1 l2 l3 l4 : Option AV} {x : Int32} {L2 : List (Nat × AV)} {S : SS} : ev c 126 22 [l0, l1, l2, l3, l4] L2 [aI x] S = some (.inl (some (aI x)), S) := ev_end i126_22 rfl
theorem m126 {d : Nat} {a0 : OId} {a1 : Int32} {a2 : Int32} {a3 : OId} {S : SS} : evm (d + 1) 126 [aR a0, aI a1, aI a2, aR a3] S = ev (evm d) 126 0 [some (aR a0), some (aI a1), some (aI a2), some (aR a3), none] [] [] S := evm_s (n := 5) rfl (Nat.le_of_ble_eq_true rfl) rfl rfl
/-! FrequencyOfficeLaw.conflictsAt(LFrequencyOffice;III[J)I -/
theorem i128_0 : insAt 128 0 = some (.aload 4, 2, (0, 0, 0, 0), 0) := rfl
theorem s128_0 {c : Nat → List AV → SS → Option Out} {l0 l1 l2 l3 l5 : Option AV} {o : OId} {L2 : List (Nat × AV)} {St : List AV} {S : SS} : ev c 128 0 [l0, l1, l2, l3, some (aR o), l5] L2 St S = ev c 128 2 [l0, l1, l2, l3, some (aR o), l5] L2 (aR o :: St) S := ev_go i128_0 rfl
theorem i128_2 : insAt 128 2 = some (.iconst 0, 1, (0, 0, 0, 0), 0) := rfl
theorem s128_2 {c : Nat → List AV → SS → Option Out} {l0 l1 l2 l3 l4 l5 : Option AV} {L2 : List (Nat × AV)} {St : List AV} {S : SS} : ev c 128 2 [l0, l1, l2, l3, l4, l5] L2 St S = ev c 128 3 [l0, l1, l2, l3, l4, l5] L2 (aI 0 :: St) S := ev_go i128_2 rfl
theorem i128_3 : insAt 128 3 = some (.aload_n 0, 1, (0, 0, 0, 0), 0) := rfl
theorem s128_3 {c : Nat → List AV → SS → Option Out} {l1 l2 l3 l4 l5 : Option AV} {o : OId} {L2 : List (Nat × AV)} {St : List AV} {S : SS} : ev c 128 3 [some (aR o), l1, l2, l3, l4, l5] L2 St S = ev c 128 4 [some (aR o), l1, l2, l3, l4, l5] L2 (aR o :: St) S := ev_go i128_3 rfl
theorem i128_4 : insAt 128 4 = some (.iload_n 1, 1, (0, 0, 0, 0), 0) := rfl
theorem s128_4 {c : Nat → List AV → SS → Option Out} {l0 l2 l3 l4 l5 : Option AV} {x : Int32} {L2 : List (Nat × AV)} {St : List AV} {S : SS} : ev c 128 4 [l0, some (aI x), l2, l3, l4, l5] L2 St S = ev c 128 5 [l0, some (aI x), l2, l3, l4, l5] L2 (aI x :: St) S := ev_go i128_4 rfl
theorem i128_5 : insAt 128 5 = some (.iload_n 2, 1, (0, 0, 0, 0), 0) := rfl
theorem s128_5 {c : Nat → List AV → SS → Option Out} {l0 l1 l3 l4 l5 : Option AV} {x : Int32} {L2 : List (Nat × AV)} {St : List AV} {S : SS} : ev c 128 5 [l0, l1, some (aI x), l3, l4, l5] L2 St S = ev c 128 6 [l0, l1, some (aI x), l3, l4, l5] L2 (aI x :: St) S := ev_go i128_5 rfl
theorem i128_6 : insAt 128 6 = some (.iload_n 3, 1, (0, 0, 0, 0), 0) := rfl
theorem s128_6 {c : Nat → List AV → SS → Option Out} {l0 l1 l2 l4 l5 : Option AV} {x : Int32} {L2 : List (Nat × AV)} {St : List AV} {S : SS} : ev c 128 6 [l0, l1, l2, some (aI x), l4, l5] L2 St S = ev c 128 7 [l0, l1, l2, some (aI x), l4, l5] L2 (aI x :: St) S := ev_go i128_6 rfl
theorem i128_7 : insAt 128 7 = some (.invokevirtual 80, 3, (129, 3, 2, 11), 253) := rfl
theorem s128_7 {c : Nat → List AV → SS → Option Out} {l0 l1 l2 l3 l4 l5 : Option AV} {t0 t1 : AV} {a0 : Int32} {a1 : Int32} {a2 : Int32} {j t : Nat} {S : SS} : ev c 128 7 [l0, l1, l2, l3, l4, l5] [] [aI a2, aI a1, aI a0, aR (11, j, t), t0, t1] S = ckH [(0, 12, 17, 5, 0)] 7 (c 129 [aR (11, j, t), aI a0, aI a1, aI a2] S) (fun v S' => ev c 128 10 [l0, l1, l2, l3, l4, l5] [] (v.toList ++ [t0, t1]) S') (fun a b S' => ev c 128 a ([l0, l1, l2, l3, l4, l5].set b none) [] [] S') := ev_callH rfl (fun E a b h9 => hnd_lt rfl h9) i128_7 rfl
theorem i128_10 : insAt 128 10 = some (.i2l, 1, (0, 0, 0, 0), 0) := rfl
theorem s128_10 {c : Nat → List AV → SS → Option Out} {l0 l1 l2 l3 l4 l5 : Option AV} {x : Int32} {L2 : List (Nat × AV)} {St : List AV} {S : SS} : ev c 128 10 [l0, l1, l2, l3, l4, l5] L2 (aI x :: St) S = ev c 128 11 [l0, l1, l2, l3, l4, l5] L2 (aL x.toInt64 :: St) S := ev_go i128_10 rfl
theorem i128_11 : insAt 128 11 = some (.lastore, 1, (0, 0, 0, 0), 0) := rfl
theorem s128_11 {c : Nat → List AV → SS → Option Out} {l0 l1 l2 l3 l4 l5 : Option AV} {x : Int64} {i : Int32} {o : OId} {L2 : List (Nat × AV)} {St : List AV} {S : SS} : ev c 128 11 [l0, l1, l2, l3, l4, l5] L2 (aL x :: aI i :: aR o :: St) S = kJ o i (ev c 128 12 [l0, l1, l2, l3, l4, l5] L2 St (S.1, setV S.2.1 o i.toNatClampNeg (aL x), S.2.2)) := ev_lastore i128_11
theorem i128_12 : insAt 128 12 = some (.goto 7, 3, (0, 0, 0, 0), 0) := rfl
theorem s128_12 {c : Nat → List AV → SS → Option Out} {l0 l1 l2 l3 l4 l5 : Option AV} {L2 : List (Nat × AV)} {St : List AV} {S : SS} : ev c 128 12 [l0, l1, l2, l3, l4, l5] L2 St S = ev c 128 19 [l0, l1, l2, l3, l4, l5] L2 St S := ev_go i128_12 rfl
theorem i128_17 : insAt 128 17 = some (.iconst 1, 1, (0, 0, 0, 0), 0) := rfl
theorem s128_17 {c : Nat → List AV → SS → Option Out} {l0 l1 l2 l3 l4 l5 : Option AV} {L2 : List (Nat × AV)} {St : List AV} {S : SS} : ev c 128 17 [l0, l1, l2, l3, l4, l5] L2 St S = ev c 128 18 [l0, l1, l2, l3, l4, l5] L2 (aI 1 :: St) S := ev_go i128_17 rfl
theorem i128_18 : insAt 128 18 = some (.ireturn, 1, (0, 0, 0, 0), 0) := rfl
theorem s128_18 {c : Nat → List AV → SS → Option Out} {l0 l1 l2 l3 l4 l5 : Option AV} {x : Int32} {L2 : List (Nat × AV)} {S : SS} : ev c 128 18 [l0, l1, l2, l3, l4, l5] L2 [aI x] S = some (.inl (some (aI x)), S) := ev_end i128_18 rfl
theorem i128_19 : insAt 128 19 = some (.iconst 0, 1, (0, 0, 0, 0), 0) := rfl
theorem s128_19 {c : Nat → List AV → SS → Option Out} {l0 l1 l2 l3 l4 l5 : Option AV} {L2 : List (Nat × AV)} {St : List AV} {S : SS} : ev c 128 19 [l0, l1, l2, l3, l4, l5] L2 St S = ev c 128 20 [l0, l1, l2, l3, l4, l5] L2 (aI 0 :: St) S := ev_go i128_19 rfl
theorem i128_20 : insAt 128 20 = some (.ireturn, 1, (0, 0, 0, 0), 0) := rfl
theorem s128_20 {c : Nat → List AV → SS → Option Out} {l0 l1 l2 l3 l4 l5 : Option AV} {x : Int32} {L2 : List (Nat × AV)} {S : SS} : ev c 128 20 [l0, l1, l2, l3, l4, l5] L2 [aI x] S = some (.inl (some (aI x)), S) := ev_end i128_20 rfl
theorem m128 {d : Nat} {a0 : OId} {a1 : Int32} {a2 : Int32} {a3 : Int32} {a4 : OId} {S : SS} : evm (d + 1) 128 [aR a0, aI a1, aI a2, aI a3, aR a4] S = ev (evm d) 128 0 [some (aR a0), some (aI a1), some (aI a2), some (aI a3), some (aR a4), none] [] [] S := evm_s (n := 6) rfl (Nat.le_of_ble_eq_true rfl) rfl rfl
/-! FrequencyOfficeLaw.disturbanceAt(LFrequencyOffice;III[J)I -/
theorem i131_0 : insAt 131 0 = some (.aload 4, 2, (0, 0, 0, 0), 0) := rfl
theorem s131_0 {c : Nat → List AV → SS → Option Out} {l0 l1 l2 l3 l5 : Option AV} {o : OId} {L2 : List (Nat × AV)} {St : List AV} {S : SS} : ev c 131 0 [l0, l1, l2, l3, some (aR o), l5] L2 St S = ev c 131 2 [l0, l1, l2, l3, some (aR o), l5] L2 (aR o :: St) S := ev_go i131_0 rfl
theorem i131_2 : insAt 131 2 = some (.iconst 0, 1, (0, 0, 0, 0), 0) := rfl
theorem s131_2 {c : Nat → List AV → SS → Option Out} {l0 l1 l2 l3 l4 l5 : Option AV} {L2 : List (Nat × AV)} {St : List AV} {S : SS} : ev c 131 2 [l0, l1, l2, l3, l4, l5] L2 St S = ev c 131 3 [l0, l1, l2, l3, l4, l5] L2 (aI 0 :: St) S := ev_go i131_2 rfl
theorem i131_3 : insAt 131 3 = some (.aload_n 0, 1, (0, 0, 0, 0), 0) := rfl
theorem s131_3 {c : Nat → List AV → SS → Option Out} {l1 l2 l3 l4 l5 : Option AV} {o : OId} {L2 : List (Nat × AV)} {St : List AV} {S : SS} : ev c 131 3 [some (aR o), l1, l2, l3, l4, l5] L2 St S = ev c 131 4 [some (aR o), l1, l2, l3, l4, l5] L2 (aR o :: St) S := ev_go i131_3 rfl
theorem i131_4 : insAt 131 4 = some (.iload_n 1, 1, (0, 0, 0, 0), 0) := rfl
theorem s131_4 {c : Nat → List AV → SS → Option Out} {l0 l2 l3 l4 l5 : Option AV} {x : Int32} {L2 : List (Nat × AV)} {St : List AV} {S : SS} : ev c 131 4 [l0, some (aI x), l2, l3, l4, l5] L2 St S = ev c 131 5 [l0, some (aI x), l2, l3, l4, l5] L2 (aI x :: St) S := ev_go i131_4 rfl
theorem i131_5 : insAt 131 5 = some (.iload_n 2, 1, (0, 0, 0, 0), 0) := rfl
theorem s131_5 {c : Nat → List AV → SS → Option Out} {l0 l1 l3 l4 l5 : Option AV} {x : Int32} {L2 : List (Nat × AV)} {St : List AV} {S : SS} : ev c 131 5 [l0, l1, some (aI x), l3, l4, l5] L2 St S = ev c 131 6 [l0, l1, some (aI x), l3, l4, l5] L2 (aI x :: St) S := ev_go i131_5 rfl
theorem i131_6 : insAt 131 6 = some (.iload_n 3, 1, (0, 0, 0, 0), 0) := rfl
theorem s131_6 {c : Nat → List AV → SS → Option Out} {l0 l1 l2 l4 l5 : Option AV} {x : Int32} {L2 : List (Nat × AV)} {St : List AV} {S : SS} : ev c 131 6 [l0, l1, l2, some (aI x), l4, l5] L2 St S = ev c 131 7 [l0, l1, l2, some (aI x), l4, l5] L2 (aI x :: St) S := ev_go i131_6 rfl
theorem i131_7 : insAt 131 7 = some (.invokevirtual 83, 3, (132, 3, 2, 11), 256) := rfl
theorem s131_7 {c : Nat → List AV → SS → Option Out} {l0 l1 l2 l3 l4 l5 : Option AV} {t0 t1 : AV} {a0 : Int32} {a1 : Int32} {a2 : Int32} {j t : Nat} {S : SS} : ev c 131 7 [l0, l1, l2, l3, l4, l5] [] [aI a2, aI a1, aI a0, aR (11, j, t), t0, t1] S = ckH [(0, 12, 17, 5, 0)] 7 (c 132 [aR (11, j, t), aI a0, aI a1, aI a2] S) (fun v S' => ev c 131 10 [l0, l1, l2, l3, l4, l5] [] (v.toList ++ [t0, t1]) S') (fun a b S' => ev c 131 a ([l0, l1, l2, l3, l4, l5].set b none) [] [] S') := ev_callH rfl (fun E a b h9 => hnd_lt rfl h9) i131_7 rfl
theorem i131_10 : insAt 131 10 = some (.i2l, 1, (0, 0, 0, 0), 0) := rfl
theorem s131_10 {c : Nat → List AV → SS → Option Out} {l0 l1 l2 l3 l4 l5 : Option AV} {x : Int32} {L2 : List (Nat × AV)} {St : List AV} {S : SS} : ev c 131 10 [l0, l1, l2, l3, l4, l5] L2 (aI x :: St) S = ev c 131 11 [l0, l1, l2, l3, l4, l5] L2 (aL x.toInt64 :: St) S := ev_go i131_10 rfl
theorem i131_11 : insAt 131 11 = some (.lastore, 1, (0, 0, 0, 0), 0) := rfl
theorem s131_11 {c : Nat → List AV → SS → Option Out} {l0 l1 l2 l3 l4 l5 : Option AV} {x : Int64} {i : Int32} {o : OId} {L2 : List (Nat × AV)} {St : List AV} {S : SS} : ev c 131 11 [l0, l1, l2, l3, l4, l5] L2 (aL x :: aI i :: aR o :: St) S = kJ o i (ev c 131 12 [l0, l1, l2, l3, l4, l5] L2 St (S.1, setV S.2.1 o i.toNatClampNeg (aL x), S.2.2)) := ev_lastore i131_11
theorem i131_12 : insAt 131 12 = some (.goto 7, 3, (0, 0, 0, 0), 0) := rfl
theorem s131_12 {c : Nat → List AV → SS → Option Out} {l0 l1 l2 l3 l4 l5 : Option AV} {L2 : List (Nat × AV)} {St : List AV} {S : SS} : ev c 131 12 [l0, l1, l2, l3, l4, l5] L2 St S = ev c 131 19 [l0, l1, l2, l3, l4, l5] L2 St S := ev_go i131_12 rfl
theorem i131_17 : insAt 131 17 = some (.iconst 1, 1, (0, 0, 0, 0), 0) := rfl
theorem s131_17 {c : Nat → List AV → SS → Option Out} {l0 l1 l2 l3 l4 l5 : Option AV} {L2 : List (Nat × AV)} {St : List AV} {S : SS} : ev c 131 17 [l0, l1, l2, l3, l4, l5] L2 St S = ev c 131 18 [l0, l1, l2, l3, l4, l5] L2 (aI 1 :: St) S := ev_go i131_17 rfl
theorem i131_18 : insAt 131 18 = some (.ireturn, 1, (0, 0, 0, 0), 0) := rfl
theorem s131_18 {c : Nat → List AV → SS → Option Out} {l0 l1 l2 l3 l4 l5 : Option AV} {x : Int32} {L2 : List (Nat × AV)} {S : SS} : ev c 131 18 [l0, l1, l2, l3, l4, l5] L2 [aI x] S = some (.inl (some (aI x)), S) := ev_end i131_18 rfl
theorem i131_19 : insAt 131 19 = some (.iconst 0, 1, (0, 0, 0, 0), 0) := rfl
theorem s131_19 {c : Nat → List AV → SS → Option Out} {l0 l1 l2 l3 l4 l5 : Option AV} {L2 : List (Nat × AV)} {St : List AV} {S : SS} : ev c 131 19 [l0, l1, l2, l3, l4, l5] L2 St S = ev c 131 20 [l0, l1, l2, l3, l4, l5] L2 (aI 0 :: St) S := ev_go i131_19 rfl
theorem i131_20 : insAt 131 20 = some (.ireturn, 1, (0, 0, 0, 0), 0) := rfl
theorem s131_20 {c : Nat → List AV → SS → Option Out} {l0 l1 l2 l3 l4 l5 : Option AV} {x : Int32} {L2 : List (Nat × AV)} {S : SS} : ev c 131 20 [l0, l1, l2, l3, l4, l5] L2 [aI x] S = some (.inl (some (aI x)), S) := ev_end i131_20 rfl
theorem m131 {d : Nat} {a0 : OId} {a1 : Int32} {a2 : Int32} {a3 : Int32} {a4 : OId} {S : SS} : evm (d + 1) 131 [aR a0, aI a1, aI a2, aI a3, aR a4] S = ev (evm d) 131 0 [some (aR a0), some (aI a1), some (aI a2), some (aI a3), some (aR a4), none] [] [] S := evm_s (n := 6) rfl (Nat.le_of_ble_eq_true rfl) rfl rfl
/-! FrequencyOfficeLaw.meanDisturbance(LFrequencyOffice;[D)I -/
theorem i133_0 : insAt 133 0 = some (.aload_n 1, 1, (0, 0, 0, 0), 0) := rfl
theorem s133_0 {c : Nat → List AV → SS → Option Out} {l0 l2 : Option AV} {o : OId} {L2 : List (Nat × AV)} {St : List AV} {S : SS} : ev c 133 0 [l0, some (aR o), l2] L2 St S = ev c 133 1 [l0, some (aR o), l2] L2 (aR o :: St) S := ev_go i133_0 rfl
theorem i133_1 : insAt 133 1 = some (.iconst 0, 1, (0, 0, 0, 0), 0) := rfl
theorem s133_1 {c : Nat → List AV → SS → Option Out} {l0 l1 l2 : Option AV} {L2 : List (Nat × AV)} {St : List AV} {S : SS} : ev c 133 1 [l0, l1, l2] L2 St S = ev c 133 2 [l0, l1, l2] L2 (aI 0 :: St) S := ev_go i133_1 rfl
theorem i133_2 : insAt 133 2 = some (.aload_n 0, 1, (0, 0, 0, 0), 0) := rfl
theorem s133_2 {c : Nat → List AV → SS → Option Out} {l1 l2 : Option AV} {o : OId} {L2 : List (Nat × AV)} {St : List AV} {S : SS} : ev c 133 2 [some (aR o), l1, l2] L2 St S = ev c 133 3 [some (aR o), l1, l2] L2 (aR o :: St) S := ev_go i133_2 rfl
theorem i133_3 : insAt 133 3 = some (.invokevirtual 86, 3, (134, 0, 2, 11), 258) := rfl
theorem s133_3 {c : Nat → List AV → SS → Option Out} {l0 l1 l2 : Option AV} {t0 t1 : AV} {j t : Nat} {S : SS} : ev c 133 3 [l0, l1, l2] [] [aR (11, j, t), t0, t1] S = ckH [(0, 8, 12, 2, 5)] 3 (c 134 [aR (11, j, t)] S) (fun v S' => ev c 133 6 [l0, l1, l2] [] (v.toList ++ [t0, t1]) S') (fun a b S' => ev c 133 a ([l0, l1, l2].set b none) [] [] S') := ev_callH rfl (fun E a b h9 => hnd_lt rfl h9) i133_3 rfl
theorem i133_6 : insAt 133 6 = some (.f2d, 1, (0, 0, 0, 0), 0) := rfl
theorem s133_6 {c : Nat → List AV → SS → Option Out} {l0 l1 l2 : Option AV} {x : UInt32} {L2 : List (Nat × AV)} {St : List AV} {S : SS} : ev c 133 6 [l0, l1, l2] L2 (aF x :: St) S = if FP.f2d x &&& 0x7fffffffffffffff ≤ 0x7ff0000000000000 then ev c 133 7 [l0, l1, l2] L2 (aD (FP.f2d x) :: St) S else none := ev_if i133_6 rfl
theorem i133_7 : insAt 133 7 = some (.dastore, 1, (0, 0, 0, 0), 0) := rfl
theorem s133_7 {c : Nat → List AV → SS → Option Out} {l0 l1 l2 : Option AV} {x : UInt64} {i : Int32} {o : OId} {L2 : List (Nat × AV)} {St : List AV} {S : SS} : ev c 133 7 [l0, l1, l2] L2 (aD x :: aI i :: aR o :: St) S = kD o i (ev c 133 8 [l0, l1, l2] L2 St (S.1, setV S.2.1 o i.toNatClampNeg (aD x), S.2.2)) := ev_dastore i133_7
theorem i133_8 : insAt 133 8 = some (.goto 6, 3, (0, 0, 0, 0), 0) := rfl
theorem s133_8 {c : Nat → List AV → SS → Option Out} {l0 l1 l2 : Option AV} {L2 : List (Nat × AV)} {St : List AV} {S : SS} : ev c 133 8 [l0, l1, l2] L2 St S = ev c 133 14 [l0, l1, l2] L2 St S := ev_go i133_8 rfl
theorem i133_12 : insAt 133 12 = some (.iconst 1, 1, (0, 0, 0, 0), 0) := rfl
theorem s133_12 {c : Nat → List AV → SS → Option Out} {l0 l1 l2 : Option AV} {L2 : List (Nat × AV)} {St : List AV} {S : SS} : ev c 133 12 [l0, l1, l2] L2 St S = ev c 133 13 [l0, l1, l2] L2 (aI 1 :: St) S := ev_go i133_12 rfl
theorem i133_13 : insAt 133 13 = some (.ireturn, 1, (0, 0, 0, 0), 0) := rfl
theorem s133_13 {c : Nat → List AV → SS → Option Out} {l0 l1 l2 : Option AV} {x : Int32} {L2 : List (Nat × AV)} {S : SS} : ev c 133 13 [l0, l1, l2] L2 [aI x] S = some (.inl (some (aI x)), S) := ev_end i133_13 rfl
theorem i133_14 : insAt 133 14 = some (.iconst 0, 1, (0, 0, 0, 0), 0) := rfl
theorem s133_14 {c : Nat → List AV → SS → Option Out} {l0 l1 l2 : Option AV} {L2 : List (Nat × AV)} {St : List AV} {S : SS} : ev c 133 14 [l0, l1, l2] L2 St S = ev c 133 15 [l0, l1, l2] L2 (aI 0 :: St) S := ev_go i133_14 rfl
theorem i133_15 : insAt 133 15 = some (.ireturn, 1, (0, 0, 0, 0), 0) := rfl
theorem s133_15 {c : Nat → List AV → SS → Option Out} {l0 l1 l2 : Option AV} {x : Int32} {L2 : List (Nat × AV)} {S : SS} : ev c 133 15 [l0, l1, l2] L2 [aI x] S = some (.inl (some (aI x)), S) := ev_end i133_15 rfl
theorem m133 {d : Nat} {a0 : OId} {a1 : OId} {S : SS} : evm (d + 1) 133 [aR a0, aR a1] S = ev (evm d) 133 0 [some (aR a0), some (aR a1), none] [] [] S := evm_s (n := 3) rfl (Nat.le_of_ble_eq_true rfl) rfl rfl
/-! FrequencyOfficeLaw.openChannels(LFrequencyOffice;II[J)I -/
theorem i136_0 : insAt 136 0 = some (.aload_n 3, 1, (0, 0, 0, 0), 0) := rfl
theorem s136_0 {c : Nat → List AV → SS → Option Out} {l0 l1 l2 l4 : Option AV} {o : OId} {L2 : List (Nat × AV)} {St : List AV} {S : SS} : ev c 136 0 [l0, l1, l2, some (aR o), l4] L2 St S = ev c 136 1 [l0, l1, l2, some (aR o), l4] L2 (aR o :: St) S := ev_go i136_0 rfl
theorem i136_1 : insAt 136 1 = some (.iconst 0, 1, (0, 0, 0, 0), 0) := rfl
theorem s136_1 {c : Nat → List AV → SS → Option Out} {l0 l1 l2 l3 l4 : Option AV} {L2 : List (Nat × AV)} {St : List AV} {S : SS} : ev c 136 1 [l0, l1, l2, l3, l4] L2 St S = ev c 136 2 [l0, l1, l2, l3, l4] L2 (aI 0 :: St) S := ev_go i136_1 rfl
theorem i136_2 : insAt 136 2 = some (.aload_n 0, 1, (0, 0, 0, 0), 0) := rfl
theorem s136_2 {c : Nat → List AV → SS → Option Out} {l1 l2 l3 l4 : Option AV} {o : OId} {L2 : List (Nat × AV)} {St : List AV} {S : SS} : ev c 136 2 [some (aR o), l1, l2, l3, l4] L2 St S = ev c 136 3 [some (aR o), l1, l2, l3, l4] L2 (aR o :: St) S := ev_go i136_2 rfl
theorem i136_3 : insAt 136 3 = some (.iload_n 1, 1, (0, 0, 0, 0), 0) := rfl
theorem s136_3 {c : Nat → List AV → SS → Option Out} {l0 l2 l3 l4 : Option AV} {x : Int32} {L2 : List (Nat × AV)} {St : List AV} {S : SS} : ev c 136 3 [l0, some (aI x), l2, l3, l4] L2 St S = ev c 136 4 [l0, some (aI x), l2, l3, l4] L2 (aI x :: St) S := ev_go i136_3 rfl
theorem i136_4 : insAt 136 4 = some (.iload_n 2, 1, (0, 0, 0, 0), 0) := rfl
theorem s136_4 {c : Nat → List AV → SS → Option Out} {l0 l1 l3 l4 : Option AV} {x : Int32} {L2 : List (Nat × AV)} {St : List AV} {S : SS} : ev c 136 4 [l0, l1, some (aI x), l3, l4] L2 St S = ev c 136 5 [l0, l1, some (aI x), l3, l4] L2 (aI x :: St) S := ev_go i136_4 rfl
theorem i136_5 : insAt 136 5 = some (.invokevirtual 92, 3, (137, 2, 2, 11), 261) := rfl
theorem s136_5 {c : Nat → List AV → SS → Option Out} {l0 l1 l2 l3 l4 : Option AV} {t0 t1 : AV} {a0 : Int32} {a1 : Int32} {j t : Nat} {S : SS} : ev c 136 5 [l0, l1, l2, l3, l4] [] [aI a1, aI a0, aR (11, j, t), t0, t1] S = ckH [(0, 10, 15, 4, 0)] 5 (c 137 [aR (11, j, t), aI a0, aI a1] S) (fun v S' => ev c 136 8 [l0, l1, l2, l3, l4] [] (v.toList ++ [t0, t1]) S') (fun a b S' => ev c 136 a ([l0, l1, l2, l3, l4].set b none) [] [] S') := ev_callH rfl (fun E a b h9 => hnd_lt rfl h9) i136_5 rfl
theorem i136_8 : insAt 136 8 = some (.i2l, 1, (0, 0, 0, 0), 0) := rfl
theorem s136_8 {c : Nat → List AV → SS → Option Out} {l0 l1 l2 l3 l4 : Option AV} {x : Int32} {L2 : List (Nat × AV)} {St : List AV} {S : SS} : ev c 136 8 [l0, l1, l2, l3, l4] L2 (aI x :: St) S = ev c 136 9 [l0, l1, l2, l3, l4] L2 (aL x.toInt64 :: St) S := ev_go i136_8 rfl
theorem i136_9 : insAt 136 9 = some (.lastore, 1, (0, 0, 0, 0), 0) := rfl
theorem s136_9 {c : Nat → List AV → SS → Option Out} {l0 l1 l2 l3 l4 : Option AV} {x : Int64} {i : Int32} {o : OId} {L2 : List (Nat × AV)} {St : List AV} {S : SS} : ev c 136 9 [l0, l1, l2, l3, l4] L2 (aL x :: aI i :: aR o :: St) S = kJ o i (ev c 136 10 [l0, l1, l2, l3, l4] L2 St (S.1, setV S.2.1 o i.toNatClampNeg (aL x), S.2.2)) := ev_lastore i136_9
theorem i136_10 : insAt 136 10 = some (.goto 7, 3, (0, 0, 0, 0), 0) := rfl
theorem s136_10 {c : Nat → List AV → SS → Option Out} {l0 l1 l2 l3 l4 : Option AV} {L2 : List (Nat × AV)} {St : List AV} {S : SS} : ev c 136 10 [l0, l1, l2, l3, l4] L2 St S = ev c 136 17 [l0, l1, l2, l3, l4] L2 St S := ev_go i136_10 rfl
theorem i136_15 : insAt 136 15 = some (.iconst 1, 1, (0, 0, 0, 0), 0) := rfl
theorem s136_15 {c : Nat → List AV → SS → Option Out} {l0 l1 l2 l3 l4 : Option AV} {L2 : List (Nat × AV)} {St : List AV} {S : SS} : ev c 136 15 [l0, l1, l2, l3, l4] L2 St S = ev c 136 16 [l0, l1, l2, l3, l4] L2 (aI 1 :: St) S := ev_go i136_15 rfl
theorem i136_16 : insAt 136 16 = some (.ireturn, 1, (0, 0, 0, 0), 0) := rfl
theorem s136_16 {c : Nat → List AV → SS → Option Out} {l0 l1 l2 l3 l4 : Option AV} {x : Int32} {L2 : List (Nat × AV)} {S : SS} : ev c 136 16 [l0, l1, l2, l3, l4] L2 [aI x] S = some (.inl (some (aI x)), S) := ev_end i136_16 rfl
theorem i136_17 : insAt 136 17 = some (.iconst 0, 1, (0, 0, 0, 0), 0) := rfl
theorem s136_17 {c : Nat → List AV → SS → Option Out} {l0 l1 l2 l3 l4 : Option AV} {L2 : List (Nat × AV)} {St : List AV} {S : SS} : ev c 136 17 [l0, l1, l2, l3, l4] L2 St S = ev c 136 18 [l0, l1, l2, l3, l4] L2 (aI 0 :: St) S := ev_go i136_17 rfl
theorem i136_18 : insAt 136 18 = some (.ireturn, 1, (0, 0, 0, 0), 0) := rfl
theorem s136_18 {c : Nat → List AV → SS → Option Out} {l0 l1 l2 l3 l4 : Option AV} {x : Int32} {L2 : List (Nat × AV)} {S : SS} : ev c 136 18 [l0, l1, l2, l3, l4] L2 [aI x] S = some (.inl (some (aI x)), S) := ev_end i136_18 rfl
theorem m136 {d : Nat} {a0 : OId} {a1 : Int32} {a2 : Int32} {a3 : OId} {S : SS} : evm (d + 1) 136 [aR a0, aI a1, aI a2, aR a3] S = ev (evm d) 136 0 [some (aR a0), some (aI a1), some (aI a2), some (aR a3), none] [] [] S := evm_s (n := 5) rfl (Nat.le_of_ble_eq_true rfl) rfl rfl
/-! FrequencyOfficeLaw.movesFor(LFrequencyOffice;II[J)I -/
theorem i138_0 : insAt 138 0 = some (.aload_n 3, 1, (0, 0, 0, 0), 0) := rfl
theorem s138_0 {c : Nat → List AV → SS → Option Out} {l0 l1 l2 l4 : Option AV} {o : OId} {L2 : List (Nat × AV)} {St : List AV} {S : SS} : ev c 138 0 [l0, l1, l2, some (aR o), l4] L2 St S = ev c 138 1 [l0, l1, l2, some (aR o), l4] L2 (aR o :: St) S := ev_go i138_0 rfl
theorem i138_1 : insAt 138 1 = some (.iconst 0, 1, (0, 0, 0, 0), 0) := rfl
theorem s138_1 {c : Nat → List AV → SS → Option Out} {l0 l1 l2 l3 l4 : Option AV} {L2 : List (Nat × AV)} {St : List AV} {S : SS} : ev c 138 1 [l0, l1, l2, l3, l4] L2 St S = ev c 138 2 [l0, l1, l2, l3, l4] L2 (aI 0 :: St) S := ev_go i138_1 rfl
theorem i138_2 : insAt 138 2 = some (.aload_n 0, 1, (0, 0, 0, 0), 0) := rfl
theorem s138_2 {c : Nat → List AV → SS → Option Out} {l1 l2 l3 l4 : Option AV} {o : OId} {L2 : List (Nat × AV)} {St : List AV} {S : SS} : ev c 138 2 [some (aR o), l1, l2, l3, l4] L2 St S = ev c 138 3 [some (aR o), l1, l2, l3, l4] L2 (aR o :: St) S := ev_go i138_2 rfl
theorem i138_3 : insAt 138 3 = some (.iload_n 1, 1, (0, 0, 0, 0), 0) := rfl
theorem s138_3 {c : Nat → List AV → SS → Option Out} {l0 l2 l3 l4 : Option AV} {x : Int32} {L2 : List (Nat × AV)} {St : List AV} {S : SS} : ev c 138 3 [l0, some (aI x), l2, l3, l4] L2 St S = ev c 138 4 [l0, some (aI x), l2, l3, l4] L2 (aI x :: St) S := ev_go i138_3 rfl
theorem i138_4 : insAt 138 4 = some (.iload_n 2, 1, (0, 0, 0, 0), 0) := rfl
theorem s138_4 {c : Nat → List AV → SS → Option Out} {l0 l1 l3 l4 : Option AV} {x : Int32} {L2 : List (Nat × AV)} {St : List AV} {S : SS} : ev c 138 4 [l0, l1, some (aI x), l3, l4] L2 St S = ev c 138 5 [l0, l1, some (aI x), l3, l4] L2 (aI x :: St) S := ev_go i138_4 rfl
theorem i138_5 : insAt 138 5 = some (.invokevirtual 95, 3, (139, 2, 2, 11), 263) := rfl
theorem s138_5 {c : Nat → List AV → SS → Option Out} {l0 l1 l2 l3 l4 : Option AV} {t0 t1 : AV} {a0 : Int32} {a1 : Int32} {j t : Nat} {S : SS} : ev c 138 5 [l0, l1, l2, l3, l4] [] [aI a1, aI a0, aR (11, j, t), t0, t1] S = ckH [(0, 10, 15, 4, 0), (0, 10, 19, 4, 2)] 5 (c 139 [aR (11, j, t), aI a0, aI a1] S) (fun v S' => ev c 138 8 [l0, l1, l2, l3, l4] [] (v.toList ++ [t0, t1]) S') (fun a b S' => ev c 138 a ([l0, l1, l2, l3, l4].set b none) [] [] S') := ev_callH rfl (fun E a b h9 => hnd_lt rfl h9) i138_5 rfl
theorem i138_8 : insAt 138 8 = some (.i2l, 1, (0, 0, 0, 0), 0) := rfl
theorem s138_8 {c : Nat → List AV → SS → Option Out} {l0 l1 l2 l3 l4 : Option AV} {x : Int32} {L2 : List (Nat × AV)} {St : List AV} {S : SS} : ev c 138 8 [l0, l1, l2, l3, l4] L2 (aI x :: St) S = ev c 138 9 [l0, l1, l2, l3, l4] L2 (aL x.toInt64 :: St) S := ev_go i138_8 rfl
theorem i138_9 : insAt 138 9 = some (.lastore, 1, (0, 0, 0, 0), 0) := rfl
theorem s138_9 {c : Nat → List AV → SS → Option Out} {l0 l1 l2 l3 l4 : Option AV} {x : Int64} {i : Int32} {o : OId} {L2 : List (Nat × AV)} {St : List AV} {S : SS} : ev c 138 9 [l0, l1, l2, l3, l4] L2 (aL x :: aI i :: aR o :: St) S = kJ o i (ev c 138 10 [l0, l1, l2, l3, l4] L2 St (S.1, setV S.2.1 o i.toNatClampNeg (aL x), S.2.2)) := ev_lastore i138_9
theorem i138_10 : insAt 138 10 = some (.goto 11, 3, (0, 0, 0, 0), 0) := rfl
theorem s138_10 {c : Nat → List AV → SS → Option Out} {l0 l1 l2 l3 l4 : Option AV} {L2 : List (Nat × AV)} {St : List AV} {S : SS} : ev c 138 10 [l0, l1, l2, l3, l4] L2 St S = ev c 138 21 [l0, l1, l2, l3, l4] L2 St S := ev_go i138_10 rfl
theorem i138_15 : insAt 138 15 = some (.iconst 1, 1, (0, 0, 0, 0), 0) := rfl
theorem s138_15 {c : Nat → List AV → SS → Option Out} {l0 l1 l2 l3 l4 : Option AV} {L2 : List (Nat × AV)} {St : List AV} {S : SS} : ev c 138 15 [l0, l1, l2, l3, l4] L2 St S = ev c 138 16 [l0, l1, l2, l3, l4] L2 (aI 1 :: St) S := ev_go i138_15 rfl
theorem i138_16 : insAt 138 16 = some (.ireturn, 1, (0, 0, 0, 0), 0) := rfl
theorem s138_16 {c : Nat → List AV → SS → Option Out} {l0 l1 l2 l3 l4 : Option AV} {x : Int32} {L2 : List (Nat × AV)} {S : SS} : ev c 138 16 [l0, l1, l2, l3, l4] L2 [aI x] S = some (.inl (some (aI x)), S) := ev_end i138_16 rfl
theorem i138_19 : insAt 138 19 = some (.iconst 2, 1, (0, 0, 0, 0), 0) := rfl
theorem s138_19 {c : Nat → List AV → SS → Option Out} {l0 l1 l2 l3 l4 : Option AV} {L2 : List (Nat × AV)} {St : List AV} {S : SS} : ev c 138 19 [l0, l1, l2, l3, l4] L2 St S = ev c 138 20 [l0, l1, l2, l3, l4] L2 (aI 2 :: St) S := ev_go i138_19 rfl
theorem i138_20 : insAt 138 20 = some (.ireturn, 1, (0, 0, 0, 0), 0) := rfl
theorem s138_20 {c : Nat → List AV → SS → Option Out} {l0 l1 l2 l3 l4 : Option AV} {x : Int32} {L2 : List (Nat × AV)} {S : SS} : ev c 138 20 [l0, l1, l2, l3, l4] L2 [aI x] S = some (.inl (some (aI x)), S) := ev_end i138_20 rfl
theorem i138_21 : insAt 138 21 = some (.iconst 0, 1, (0, 0, 0, 0), 0) := rfl
theorem s138_21 {c : Nat → List AV → SS → Option Out} {l0 l1 l2 l3 l4 : Option AV} {L2 : List (Nat × AV)} {St : List AV} {S : SS} : ev c 138 21 [l0, l1, l2, l3, l4] L2 St S = ev c 138 22 [l0, l1, l2, l3, l4] L2 (aI 0 :: St) S := ev_go i138_21 rfl
theorem i138_22 : insAt 138 22 = some (.ireturn, 1, (0, 0, 0, 0), 0) := rfl
theorem s138_22 {c : Nat → List AV → SS → Option Out} {l0 l1 l2 l3 l4 : Option AV} {x : Int32} {L2 : List (Nat × AV)} {S : SS} : ev c 138 22 [l0, l1, l2, l3, l4] L2 [aI x] S = some (.inl (some (aI x)), S) := ev_end i138_22 rfl
theorem m138 {d : Nat} {a0 : OId} {a1 : Int32} {a2 : Int32} {a3 : OId} {S : SS} : evm (d + 1) 138 [aR a0, aI a1, aI a2, aR a3] S = ev (evm d) 138 0 [some (aR a0), some (aI a1), some (aI a2), some (aR a3), none] [] [] S := evm_s (n := 5) rfl (Nat.le_of_ble_eq_true rfl) rfl rfl
/-! FrequencyOfficeLaw.movesForByQueue(LFrequencyOffice;II[J)I -/
theorem i140_0 : insAt 140 0 = some (.aload_n 3, 1, (0, 0, 0, 0), 0) := rfl
theorem s140_0 {c : Nat → List AV → SS → Option Out} {l0 l1 l2 l4 : Option AV} {o : OId} {L2 : List (Nat × AV)} {St : List AV} {S : SS} : ev c 140 0 [l0, l1, l2, some (aR o), l4] L2 St S = ev c 140 1 [l0, l1, l2, some (aR o), l4] L2 (aR o :: St) S := ev_go i140_0 rfl
theorem i140_1 : insAt 140 1 = some (.iconst 0, 1, (0, 0, 0, 0), 0) := rfl
theorem s140_1 {c : Nat → List AV → SS → Option Out} {l0 l1 l2 l3 l4 : Option AV} {L2 : List (Nat × AV)} {St : List AV} {S : SS} : ev c 140 1 [l0, l1, l2, l3, l4] L2 St S = ev c 140 2 [l0, l1, l2, l3, l4] L2 (aI 0 :: St) S := ev_go i140_1 rfl
theorem i140_2 : insAt 140 2 = some (.aload_n 0, 1, (0, 0, 0, 0), 0) := rfl
theorem s140_2 {c : Nat → List AV → SS → Option Out} {l1 l2 l3 l4 : Option AV} {o : OId} {L2 : List (Nat × AV)} {St : List AV} {S : SS} : ev c 140 2 [some (aR o), l1, l2, l3, l4] L2 St S = ev c 140 3 [some (aR o), l1, l2, l3, l4] L2 (aR o :: St) S := ev_go i140_2 rfl
theorem i140_3 : insAt 140 3 = some (.iload_n 1, 1, (0, 0, 0, 0), 0) := rfl
theorem s140_3 {c : Nat → List AV → SS → Option Out} {l0 l2 l3 l4 : Option AV} {x : Int32} {L2 : List (Nat × AV)} {St : List AV} {S : SS} : ev c 140 3 [l0, some (aI x), l2, l3, l4] L2 St S = ev c 140 4 [l0, some (aI x), l2, l3, l4] L2 (aI x :: St) S := ev_go i140_3 rfl
theorem i140_4 : insAt 140 4 = some (.iload_n 2, 1, (0, 0, 0, 0), 0) := rfl
theorem s140_4 {c : Nat → List AV → SS → Option Out} {l0 l1 l3 l4 : Option AV} {x : Int32} {L2 : List (Nat × AV)} {St : List AV} {S : SS} : ev c 140 4 [l0, l1, some (aI x), l3, l4] L2 St S = ev c 140 5 [l0, l1, some (aI x), l3, l4] L2 (aI x :: St) S := ev_go i140_4 rfl
theorem i140_5 : insAt 140 5 = some (.invokevirtual 98, 3, (141, 2, 2, 11), 265) := rfl
theorem s140_5 {c : Nat → List AV → SS → Option Out} {l0 l1 l2 l3 l4 : Option AV} {t0 t1 : AV} {a0 : Int32} {a1 : Int32} {j t : Nat} {S : SS} : ev c 140 5 [l0, l1, l2, l3, l4] [] [aI a1, aI a0, aR (11, j, t), t0, t1] S = ckH [(0, 10, 15, 4, 0), (0, 10, 19, 4, 2)] 5 (c 141 [aR (11, j, t), aI a0, aI a1] S) (fun v S' => ev c 140 8 [l0, l1, l2, l3, l4] [] (v.toList ++ [t0, t1]) S') (fun a b S' => ev c 140 a ([l0, l1, l2, l3, l4].set b none) [] [] S') := ev_callH rfl (fun E a b h9 => hnd_lt rfl h9) i140_5 rfl
theorem i140_8 : insAt 140 8 = some (.i2l, 1, (0, 0, 0, 0), 0) := rfl
theorem s140_8 {c : Nat → List AV → SS → Option Out} {l0 l1 l2 l3 l4 : Option AV} {x : Int32} {L2 : List (Nat × AV)} {St : List AV} {S : SS} : ev c 140 8 [l0, l1, l2, l3, l4] L2 (aI x :: St) S = ev c 140 9 [l0, l1, l2, l3, l4] L2 (aL x.toInt64 :: St) S := ev_go i140_8 rfl
theorem i140_9 : insAt 140 9 = some (.lastore, 1, (0, 0, 0, 0), 0) := rfl
theorem s140_9 {c : Nat → List AV → SS → Option Out} {l0 l1 l2 l3 l4 : Option AV} {x : Int64} {i : Int32} {o : OId} {L2 : List (Nat × AV)} {St : List AV} {S : SS} : ev c 140 9 [l0, l1, l2, l3, l4] L2 (aL x :: aI i :: aR o :: St) S = kJ o i (ev c 140 10 [l0, l1, l2, l3, l4] L2 St (S.1, setV S.2.1 o i.toNatClampNeg (aL x), S.2.2)) := ev_lastore i140_9
theorem i140_10 : insAt 140 10 = some (.goto 11, 3, (0, 0, 0, 0), 0) := rfl
theorem s140_10 {c : Nat → List AV → SS → Option Out} {l0 l1 l2 l3 l4 : Option AV} {L2 : List (Nat × AV)} {St : List AV} {S : SS} : ev c 140 10 [l0, l1, l2, l3, l4] L2 St S = ev c 140 21 [l0, l1, l2, l3, l4] L2 St S := ev_go i140_10 rfl
theorem i140_15 : insAt 140 15 = some (.iconst 1, 1, (0, 0, 0, 0), 0) := rfl
theorem s140_15 {c : Nat → List AV → SS → Option Out} {l0 l1 l2 l3 l4 : Option AV} {L2 : List (Nat × AV)} {St : List AV} {S : SS} : ev c 140 15 [l0, l1, l2, l3, l4] L2 St S = ev c 140 16 [l0, l1, l2, l3, l4] L2 (aI 1 :: St) S := ev_go i140_15 rfl
theorem i140_16 : insAt 140 16 = some (.ireturn, 1, (0, 0, 0, 0), 0) := rfl
theorem s140_16 {c : Nat → List AV → SS → Option Out} {l0 l1 l2 l3 l4 : Option AV} {x : Int32} {L2 : List (Nat × AV)} {S : SS} : ev c 140 16 [l0, l1, l2, l3, l4] L2 [aI x] S = some (.inl (some (aI x)), S) := ev_end i140_16 rfl
theorem i140_19 : insAt 140 19 = some (.iconst 2, 1, (0, 0, 0, 0), 0) := rfl
theorem s140_19 {c : Nat → List AV → SS → Option Out} {l0 l1 l2 l3 l4 : Option AV} {L2 : List (Nat × AV)} {St : List AV} {S : SS} : ev c 140 19 [l0, l1, l2, l3, l4] L2 St S = ev c 140 20 [l0, l1, l2, l3, l4] L2 (aI 2 :: St) S := ev_go i140_19 rfl
theorem i140_20 : insAt 140 20 = some (.ireturn, 1, (0, 0, 0, 0), 0) := rfl
theorem s140_20 {c : Nat → List AV → SS → Option Out} {l0 l1 l2 l3 l4 : Option AV} {x : Int32} {L2 : List (Nat × AV)} {S : SS} : ev c 140 20 [l0, l1, l2, l3, l4] L2 [aI x] S = some (.inl (some (aI x)), S) := ev_end i140_20 rfl
theorem i140_21 : insAt 140 21 = some (.iconst 0, 1, (0, 0, 0, 0), 0) := rfl
theorem s140_21 {c : Nat → List AV → SS → Option Out} {l0 l1 l2 l3 l4 : Option AV} {L2 : List (Nat × AV)} {St : List AV} {S : SS} : ev c 140 21 [l0, l1, l2, l3, l4] L2 St S = ev c 140 22 [l0, l1, l2, l3, l4] L2 (aI 0 :: St) S := ev_go i140_21 rfl
theorem i140_22 : insAt 140 22 = some (.ireturn, 1, (0, 0, 0, 0), 0) := rfl
theorem s140_22 {c : Nat → List AV → SS → Option Out} {l0 l1 l2 l3 l4 : Option AV} {x : Int32} {L2 : List (Nat × AV)} {S : SS} : ev c 140 22 [l0, l1, l2, l3, l4] L2 [aI x] S = some (.inl (some (aI x)), S) := ev_end i140_22 rfl
theorem m140 {d : Nat} {a0 : OId} {a1 : Int32} {a2 : Int32} {a3 : OId} {S : SS} : evm (d + 1) 140 [aR a0, aI a1, aI a2, aR a3] S = ev (evm d) 140 0 [some (aR a0), some (aI a1), some (aI a2), some (aR a3), none] [] [] S := evm_s (n := 5) rfl (Nat.le_of_ble_eq_true rfl) rfl rfl
/-! FrequencyOfficeLaw.movesToChange(LFrequencyOffice;II[J)I -/
theorem i147_0 : insAt 147 0 = some (.aload_n 3, 1, (0, 0, 0, 0), 0) := rfl
theorem s147_0 {c : Nat → List AV → SS → Option Out} {l0 l1 l2 l4 : Option AV} {o : OId} {L2 : List (Nat × AV)} {St : List AV} {S : SS} : ev c 147 0 [l0, l1, l2, some (aR o), l4] L2 St S = ev c 147 1 [l0, l1, l2, some (aR o), l4] L2 (aR o :: St) S := ev_go i147_0 rfl
theorem i147_1 : insAt 147 1 = some (.iconst 0, 1, (0, 0, 0, 0), 0) := rfl
theorem s147_1 {c : Nat → List AV → SS → Option Out} {l0 l1 l2 l3 l4 : Option AV} {L2 : List (Nat × AV)} {St : List AV} {S : SS} : ev c 147 1 [l0, l1, l2, l3, l4] L2 St S = ev c 147 2 [l0, l1, l2, l3, l4] L2 (aI 0 :: St) S := ev_go i147_1 rfl
theorem i147_2 : insAt 147 2 = some (.aload_n 0, 1, (0, 0, 0, 0), 0) := rfl
theorem s147_2 {c : Nat → List AV → SS → Option Out} {l1 l2 l3 l4 : Option AV} {o : OId} {L2 : List (Nat × AV)} {St : List AV} {S : SS} : ev c 147 2 [some (aR o), l1, l2, l3, l4] L2 St S = ev c 147 3 [some (aR o), l1, l2, l3, l4] L2 (aR o :: St) S := ev_go i147_2 rfl
theorem i147_3 : insAt 147 3 = some (.iload_n 1, 1, (0, 0, 0, 0), 0) := rfl
theorem s147_3 {c : Nat → List AV → SS → Option Out} {l0 l2 l3 l4 : Option AV} {x : Int32} {L2 : List (Nat × AV)} {St : List AV} {S : SS} : ev c 147 3 [l0, some (aI x), l2, l3, l4] L2 St S = ev c 147 4 [l0, some (aI x), l2, l3, l4] L2 (aI x :: St) S := ev_go i147_3 rfl
theorem i147_4 : insAt 147 4 = some (.iload_n 2, 1, (0, 0, 0, 0), 0) := rfl
theorem s147_4 {c : Nat → List AV → SS → Option Out} {l0 l1 l3 l4 : Option AV} {x : Int32} {L2 : List (Nat × AV)} {St : List AV} {S : SS} : ev c 147 4 [l0, l1, some (aI x), l3, l4] L2 St S = ev c 147 5 [l0, l1, some (aI x), l3, l4] L2 (aI x :: St) S := ev_go i147_4 rfl
theorem i147_5 : insAt 147 5 = some (.invokevirtual 101, 3, (148, 2, 2, 11), 271) := rfl
theorem s147_5 {c : Nat → List AV → SS → Option Out} {l0 l1 l2 l3 l4 : Option AV} {t0 t1 : AV} {a0 : Int32} {a1 : Int32} {j t : Nat} {S : SS} : ev c 147 5 [l0, l1, l2, l3, l4] [] [aI a1, aI a0, aR (11, j, t), t0, t1] S = ckH [(0, 10, 15, 4, 3), (0, 10, 19, 4, 0), (0, 10, 23, 4, 1), (0, 10, 27, 4, 2)] 5 (c 148 [aR (11, j, t), aI a0, aI a1] S) (fun v S' => ev c 147 8 [l0, l1, l2, l3, l4] [] (v.toList ++ [t0, t1]) S') (fun a b S' => ev c 147 a ([l0, l1, l2, l3, l4].set b none) [] [] S') := ev_callH rfl (fun E a b h9 => hnd_lt rfl h9) i147_5 rfl
theorem i147_8 : insAt 147 8 = some (.i2l, 1, (0, 0, 0, 0), 0) := rfl
theorem s147_8 {c : Nat → List AV → SS → Option Out} {l0 l1 l2 l3 l4 : Option AV} {x : Int32} {L2 : List (Nat × AV)} {St : List AV} {S : SS} : ev c 147 8 [l0, l1, l2, l3, l4] L2 (aI x :: St) S = ev c 147 9 [l0, l1, l2, l3, l4] L2 (aL x.toInt64 :: St) S := ev_go i147_8 rfl
theorem i147_9 : insAt 147 9 = some (.lastore, 1, (0, 0, 0, 0), 0) := rfl
theorem s147_9 {c : Nat → List AV → SS → Option Out} {l0 l1 l2 l3 l4 : Option AV} {x : Int64} {i : Int32} {o : OId} {L2 : List (Nat × AV)} {St : List AV} {S : SS} : ev c 147 9 [l0, l1, l2, l3, l4] L2 (aL x :: aI i :: aR o :: St) S = kJ o i (ev c 147 10 [l0, l1, l2, l3, l4] L2 St (S.1, setV S.2.1 o i.toNatClampNeg (aL x), S.2.2)) := ev_lastore i147_9
theorem i147_10 : insAt 147 10 = some (.goto 19, 3, (0, 0, 0, 0), 0) := rfl
theorem s147_10 {c : Nat → List AV → SS → Option Out} {l0 l1 l2 l3 l4 : Option AV} {L2 : List (Nat × AV)} {St : List AV} {S : SS} : ev c 147 10 [l0, l1, l2, l3, l4] L2 St S = ev c 147 29 [l0, l1, l2, l3, l4] L2 St S := ev_go i147_10 rfl
theorem i147_15 : insAt 147 15 = some (.iconst 1, 1, (0, 0, 0, 0), 0) := rfl
theorem s147_15 {c : Nat → List AV → SS → Option Out} {l0 l1 l2 l3 l4 : Option AV} {L2 : List (Nat × AV)} {St : List AV} {S : SS} : ev c 147 15 [l0, l1, l2, l3, l4] L2 St S = ev c 147 16 [l0, l1, l2, l3, l4] L2 (aI 1 :: St) S := ev_go i147_15 rfl
theorem i147_16 : insAt 147 16 = some (.ireturn, 1, (0, 0, 0, 0), 0) := rfl
theorem s147_16 {c : Nat → List AV → SS → Option Out} {l0 l1 l2 l3 l4 : Option AV} {x : Int32} {L2 : List (Nat × AV)} {S : SS} : ev c 147 16 [l0, l1, l2, l3, l4] L2 [aI x] S = some (.inl (some (aI x)), S) := ev_end i147_16 rfl
theorem i147_19 : insAt 147 19 = some (.iconst 2, 1, (0, 0, 0, 0), 0) := rfl
theorem s147_19 {c : Nat → List AV → SS → Option Out} {l0 l1 l2 l3 l4 : Option AV} {L2 : List (Nat × AV)} {St : List AV} {S : SS} : ev c 147 19 [l0, l1, l2, l3, l4] L2 St S = ev c 147 20 [l0, l1, l2, l3, l4] L2 (aI 2 :: St) S := ev_go i147_19 rfl
theorem i147_20 : insAt 147 20 = some (.ireturn, 1, (0, 0, 0, 0), 0) := rfl
theorem s147_20 {c : Nat → List AV → SS → Option Out} {l0 l1 l2 l3 l4 : Option AV} {x : Int32} {L2 : List (Nat × AV)} {S : SS} : ev c 147 20 [l0, l1, l2, l3, l4] L2 [aI x] S = some (.inl (some (aI x)), S) := ev_end i147_20 rfl
theorem i147_23 : insAt 147 23 = some (.iconst 3, 1, (0, 0, 0, 0), 0) := rfl
theorem s147_23 {c : Nat → List AV → SS → Option Out} {l0 l1 l2 l3 l4 : Option AV} {L2 : List (Nat × AV)} {St : List AV} {S : SS} : ev c 147 23 [l0, l1, l2, l3, l4] L2 St S = ev c 147 24 [l0, l1, l2, l3, l4] L2 (aI 3 :: St) S := ev_go i147_23 rfl
theorem i147_24 : insAt 147 24 = some (.ireturn, 1, (0, 0, 0, 0), 0) := rfl
theorem s147_24 {c : Nat → List AV → SS → Option Out} {l0 l1 l2 l3 l4 : Option AV} {x : Int32} {L2 : List (Nat × AV)} {S : SS} : ev c 147 24 [l0, l1, l2, l3, l4] L2 [aI x] S = some (.inl (some (aI x)), S) := ev_end i147_24 rfl
theorem i147_27 : insAt 147 27 = some (.iconst 4, 1, (0, 0, 0, 0), 0) := rfl
theorem s147_27 {c : Nat → List AV → SS → Option Out} {l0 l1 l2 l3 l4 : Option AV} {L2 : List (Nat × AV)} {St : List AV} {S : SS} : ev c 147 27 [l0, l1, l2, l3, l4] L2 St S = ev c 147 28 [l0, l1, l2, l3, l4] L2 (aI 4 :: St) S := ev_go i147_27 rfl
theorem i147_28 : insAt 147 28 = some (.ireturn, 1, (0, 0, 0, 0), 0) := rfl
theorem s147_28 {c : Nat → List AV → SS → Option Out} {l0 l1 l2 l3 l4 : Option AV} {x : Int32} {L2 : List (Nat × AV)} {S : SS} : ev c 147 28 [l0, l1, l2, l3, l4] L2 [aI x] S = some (.inl (some (aI x)), S) := ev_end i147_28 rfl
theorem i147_29 : insAt 147 29 = some (.iconst 0, 1, (0, 0, 0, 0), 0) := rfl
theorem s147_29 {c : Nat → List AV → SS → Option Out} {l0 l1 l2 l3 l4 : Option AV} {L2 : List (Nat × AV)} {St : List AV} {S : SS} : ev c 147 29 [l0, l1, l2, l3, l4] L2 St S = ev c 147 30 [l0, l1, l2, l3, l4] L2 (aI 0 :: St) S := ev_go i147_29 rfl
theorem i147_30 : insAt 147 30 = some (.ireturn, 1, (0, 0, 0, 0), 0) := rfl
theorem s147_30 {c : Nat → List AV → SS → Option Out} {l0 l1 l2 l3 l4 : Option AV} {x : Int32} {L2 : List (Nat × AV)} {S : SS} : ev c 147 30 [l0, l1, l2, l3, l4] L2 [aI x] S = some (.inl (some (aI x)), S) := ev_end i147_30 rfl
theorem m147 {d : Nat} {a0 : OId} {a1 : Int32} {a2 : Int32} {a3 : OId} {S : SS} : evm (d + 1) 147 [aR a0, aI a1, aI a2, aR a3] S = ev (evm d) 147 0 [some (aR a0), some (aI a1), some (aI a2), some (aR a3), none] [] [] S := evm_s (n := 5) rfl (Nat.le_of_ble_eq_true rfl) rfl rfl
/-! FrequencyOfficeLaw.movesToChangeByQueue(LFrequencyOffice;II[J)I -/
theorem i152_0 : insAt 152 0 = some (.aload_n 3, 1, (0, 0, 0, 0), 0) := rfl
theorem s152_0 {c : Nat → List AV → SS → Option Out} {l0 l1 l2 l4 : Option AV} {o : OId} {L2 : List (Nat × AV)} {St : List AV} {S : SS} : ev c 152 0 [l0, l1, l2, some (aR o), l4] L2 St S = ev c 152 1 [l0, l1, l2, some (aR o), l4] L2 (aR o :: St) S := ev_go i152_0 rfl
theorem i152_1 : insAt 152 1 = some (.iconst 0, 1, (0, 0, 0, 0), 0) := rfl
theorem s152_1 {c : Nat → List AV → SS → Option Out} {l0 l1 l2 l3 l4 : Option AV} {L2 : List (Nat × AV)} {St : List AV} {S : SS} : ev c 152 1 [l0, l1, l2, l3, l4] L2 St S = ev c 152 2 [l0, l1, l2, l3, l4] L2 (aI 0 :: St) S := ev_go i152_1 rfl
theorem i152_2 : insAt 152 2 = some (.aload_n 0, 1, (0, 0, 0, 0), 0) := rfl
theorem s152_2 {c : Nat → List AV → SS → Option Out} {l1 l2 l3 l4 : Option AV} {o : OId} {L2 : List (Nat × AV)} {St : List AV} {S : SS} : ev c 152 2 [some (aR o), l1, l2, l3, l4] L2 St S = ev c 152 3 [some (aR o), l1, l2, l3, l4] L2 (aR o :: St) S := ev_go i152_2 rfl
theorem i152_3 : insAt 152 3 = some (.iload_n 1, 1, (0, 0, 0, 0), 0) := rfl
theorem s152_3 {c : Nat → List AV → SS → Option Out} {l0 l2 l3 l4 : Option AV} {x : Int32} {L2 : List (Nat × AV)} {St : List AV} {S : SS} : ev c 152 3 [l0, some (aI x), l2, l3, l4] L2 St S = ev c 152 4 [l0, some (aI x), l2, l3, l4] L2 (aI x :: St) S := ev_go i152_3 rfl
theorem i152_4 : insAt 152 4 = some (.iload_n 2, 1, (0, 0, 0, 0), 0) := rfl
theorem s152_4 {c : Nat → List AV → SS → Option Out} {l0 l1 l3 l4 : Option AV} {x : Int32} {L2 : List (Nat × AV)} {St : List AV} {S : SS} : ev c 152 4 [l0, l1, some (aI x), l3, l4] L2 St S = ev c 152 5 [l0, l1, some (aI x), l3, l4] L2 (aI x :: St) S := ev_go i152_4 rfl
theorem i152_5 : insAt 152 5 = some (.invokevirtual 104, 3, (153, 2, 2, 11), 277) := rfl
theorem s152_5 {c : Nat → List AV → SS → Option Out} {l0 l1 l2 l3 l4 : Option AV} {t0 t1 : AV} {a0 : Int32} {a1 : Int32} {j t : Nat} {S : SS} : ev c 152 5 [l0, l1, l2, l3, l4] [] [aI a1, aI a0, aR (11, j, t), t0, t1] S = ckH [(0, 10, 15, 4, 3), (0, 10, 19, 4, 0), (0, 10, 23, 4, 1), (0, 10, 27, 4, 2)] 5 (c 153 [aR (11, j, t), aI a0, aI a1] S) (fun v S' => ev c 152 8 [l0, l1, l2, l3, l4] [] (v.toList ++ [t0, t1]) S') (fun a b S' => ev c 152 a ([l0, l1, l2, l3, l4].set b none) [] [] S') := ev_callH rfl (fun E a b h9 => hnd_lt rfl h9) i152_5 rfl
theorem i152_8 : insAt 152 8 = some (.i2l, 1, (0, 0, 0, 0), 0) := rfl
theorem s152_8 {c : Nat → List AV → SS → Option Out} {l0 l1 l2 l3 l4 : Option AV} {x : Int32} {L2 : List (Nat × AV)} {St : List AV} {S : SS} : ev c 152 8 [l0, l1, l2, l3, l4] L2 (aI x :: St) S = ev c 152 9 [l0, l1, l2, l3, l4] L2 (aL x.toInt64 :: St) S := ev_go i152_8 rfl
theorem i152_9 : insAt 152 9 = some (.lastore, 1, (0, 0, 0, 0), 0) := rfl
theorem s152_9 {c : Nat → List AV → SS → Option Out} {l0 l1 l2 l3 l4 : Option AV} {x : Int64} {i : Int32} {o : OId} {L2 : List (Nat × AV)} {St : List AV} {S : SS} : ev c 152 9 [l0, l1, l2, l3, l4] L2 (aL x :: aI i :: aR o :: St) S = kJ o i (ev c 152 10 [l0, l1, l2, l3, l4] L2 St (S.1, setV S.2.1 o i.toNatClampNeg (aL x), S.2.2)) := ev_lastore i152_9
theorem i152_10 : insAt 152 10 = some (.goto 19, 3, (0, 0, 0, 0), 0) := rfl
theorem s152_10 {c : Nat → List AV → SS → Option Out} {l0 l1 l2 l3 l4 : Option AV} {L2 : List (Nat × AV)} {St : List AV} {S : SS} : ev c 152 10 [l0, l1, l2, l3, l4] L2 St S = ev c 152 29 [l0, l1, l2, l3, l4] L2 St S := ev_go i152_10 rfl
theorem i152_15 : insAt 152 15 = some (.iconst 1, 1, (0, 0, 0, 0), 0) := rfl
theorem s152_15 {c : Nat → List AV → SS → Option Out} {l0 l1 l2 l3 l4 : Option AV} {L2 : List (Nat × AV)} {St : List AV} {S : SS} : ev c 152 15 [l0, l1, l2, l3, l4] L2 St S = ev c 152 16 [l0, l1, l2, l3, l4] L2 (aI 1 :: St) S := ev_go i152_15 rfl
theorem i152_16 : insAt 152 16 = some (.ireturn, 1, (0, 0, 0, 0), 0) := rfl
theorem s152_16 {c : Nat → List AV → SS → Option Out} {l0 l1 l2 l3 l4 : Option AV} {x : Int32} {L2 : List (Nat × AV)} {S : SS} : ev c 152 16 [l0, l1, l2, l3, l4] L2 [aI x] S = some (.inl (some (aI x)), S) := ev_end i152_16 rfl
theorem i152_19 : insAt 152 19 = some (.iconst 2, 1, (0, 0, 0, 0), 0) := rfl
theorem s152_19 {c : Nat → List AV → SS → Option Out} {l0 l1 l2 l3 l4 : Option AV} {L2 : List (Nat × AV)} {St : List AV} {S : SS} : ev c 152 19 [l0, l1, l2, l3, l4] L2 St S = ev c 152 20 [l0, l1, l2, l3, l4] L2 (aI 2 :: St) S := ev_go i152_19 rfl
theorem i152_20 : insAt 152 20 = some (.ireturn, 1, (0, 0, 0, 0), 0) := rfl
theorem s152_20 {c : Nat → List AV → SS → Option Out} {l0 l1 l2 l3 l4 : Option AV} {x : Int32} {L2 : List (Nat × AV)} {S : SS} : ev c 152 20 [l0, l1, l2, l3, l4] L2 [aI x] S = some (.inl (some (aI x)), S) := ev_end i152_20 rfl
theorem i152_23 : insAt 152 23 = some (.iconst 3, 1, (0, 0, 0, 0), 0) := rfl
theorem s152_23 {c : Nat → List AV → SS → Option Out} {l0 l1 l2 l3 l4 : Option AV} {L2 : List (Nat × AV)} {St : List AV} {S : SS} : ev c 152 23 [l0, l1, l2, l3, l4] L2 St S = ev c 152 24 [l0, l1, l2, l3, l4] L2 (aI 3 :: St) S := ev_go i152_23 rfl
theorem i152_24 : insAt 152 24 = some (.ireturn, 1, (0, 0, 0, 0), 0) := rfl
theorem s152_24 {c : Nat → List AV → SS → Option Out} {l0 l1 l2 l3 l4 : Option AV} {x : Int32} {L2 : List (Nat × AV)} {S : SS} : ev c 152 24 [l0, l1, l2, l3, l4] L2 [aI x] S = some (.inl (some (aI x)), S) := ev_end i152_24 rfl
theorem i152_27 : insAt 152 27 = some (.iconst 4, 1, (0, 0, 0, 0), 0) := rfl
theorem s152_27 {c : Nat → List AV → SS → Option Out} {l0 l1 l2 l3 l4 : Option AV} {L2 : List (Nat × AV)} {St : List AV} {S : SS} : ev c 152 27 [l0, l1, l2, l3, l4] L2 St S = ev c 152 28 [l0, l1, l2, l3, l4] L2 (aI 4 :: St) S := ev_go i152_27 rfl
theorem i152_28 : insAt 152 28 = some (.ireturn, 1, (0, 0, 0, 0), 0) := rfl
theorem s152_28 {c : Nat → List AV → SS → Option Out} {l0 l1 l2 l3 l4 : Option AV} {x : Int32} {L2 : List (Nat × AV)} {S : SS} : ev c 152 28 [l0, l1, l2, l3, l4] L2 [aI x] S = some (.inl (some (aI x)), S) := ev_end i152_28 rfl
theorem i152_29 : insAt 152 29 = some (.iconst 0, 1, (0, 0, 0, 0), 0) := rfl
theorem s152_29 {c : Nat → List AV → SS → Option Out} {l0 l1 l2 l3 l4 : Option AV} {L2 : List (Nat × AV)} {St : List AV} {S : SS} : ev c 152 29 [l0, l1, l2, l3, l4] L2 St S = ev c 152 30 [l0, l1, l2, l3, l4] L2 (aI 0 :: St) S := ev_go i152_29 rfl
theorem i152_30 : insAt 152 30 = some (.ireturn, 1, (0, 0, 0, 0), 0) := rfl
theorem s152_30 {c : Nat → List AV → SS → Option Out} {l0 l1 l2 l3 l4 : Option AV} {x : Int32} {L2 : List (Nat × AV)} {S : SS} : ev c 152 30 [l0, l1, l2, l3, l4] L2 [aI x] S = some (.inl (some (aI x)), S) := ev_end i152_30 rfl
theorem m152 {d : Nat} {a0 : OId} {a1 : Int32} {a2 : Int32} {a3 : OId} {S : SS} : evm (d + 1) 152 [aR a0, aI a1, aI a2, aR a3] S = ev (evm d) 152 0 [some (aR a0), some (aI a1), some (aI a2), some (aR a3), none] [] [] S := evm_s (n := 5) rfl (Nat.le_of_ble_eq_true rfl) rfl rfl
/-! FrequencyOfficeLaw.change(LFrequencyOffice;II[J)I -/
theorem i154_0 : insAt 154 0 = some (.aload_n 3, 1, (0, 0, 0, 0), 0) := rfl
theorem s154_0 {c : Nat → List AV → SS → Option Out} {l0 l1 l2 l4 : Option AV} {o : OId} {L2 : List (Nat × AV)} {St : List AV} {S : SS} : ev c 154 0 [l0, l1, l2, some (aR o), l4] L2 St S = ev c 154 1 [l0, l1, l2, some (aR o), l4] L2 (aR o :: St) S := ev_go i154_0 rfl
theorem i154_1 : insAt 154 1 = some (.iconst 0, 1, (0, 0, 0, 0), 0) := rfl
theorem s154_1 {c : Nat → List AV → SS → Option Out} {l0 l1 l2 l3 l4 : Option AV} {L2 : List (Nat × AV)} {St : List AV} {S : SS} : ev c 154 1 [l0, l1, l2, l3, l4] L2 St S = ev c 154 2 [l0, l1, l2, l3, l4] L2 (aI 0 :: St) S := ev_go i154_1 rfl
theorem i154_2 : insAt 154 2 = some (.aload_n 0, 1, (0, 0, 0, 0), 0) := rfl
theorem s154_2 {c : Nat → List AV → SS → Option Out} {l1 l2 l3 l4 : Option AV} {o : OId} {L2 : List (Nat × AV)} {St : List AV} {S : SS} : ev c 154 2 [some (aR o), l1, l2, l3, l4] L2 St S = ev c 154 3 [some (aR o), l1, l2, l3, l4] L2 (aR o :: St) S := ev_go i154_2 rfl
theorem i154_3 : insAt 154 3 = some (.iload_n 1, 1, (0, 0, 0, 0), 0) := rfl
theorem s154_3 {c : Nat → List AV → SS → Option Out} {l0 l2 l3 l4 : Option AV} {x : Int32} {L2 : List (Nat × AV)} {St : List AV} {S : SS} : ev c 154 3 [l0, some (aI x), l2, l3, l4] L2 St S = ev c 154 4 [l0, some (aI x), l2, l3, l4] L2 (aI x :: St) S := ev_go i154_3 rfl
theorem i154_4 : insAt 154 4 = some (.iload_n 2, 1, (0, 0, 0, 0), 0) := rfl
theorem s154_4 {c : Nat → List AV → SS → Option Out} {l0 l1 l3 l4 : Option AV} {x : Int32} {L2 : List (Nat × AV)} {St : List AV} {S : SS} : ev c 154 4 [l0, l1, some (aI x), l3, l4] L2 St S = ev c 154 5 [l0, l1, some (aI x), l3, l4] L2 (aI x :: St) S := ev_go i154_4 rfl
theorem i154_5 : insAt 154 5 = some (.invokevirtual 107, 3, (155, 2, 2, 11), 278) := rfl
theorem s154_5 {c : Nat → List AV → SS → Option Out} {l0 l1 l2 l3 l4 : Option AV} {t0 t1 : AV} {a0 : Int32} {a1 : Int32} {j t : Nat} {S : SS} : ev c 154 5 [l0, l1, l2, l3, l4] [] [aI a1, aI a0, aR (11, j, t), t0, t1] S = ckH [(0, 10, 15, 4, 3), (0, 10, 19, 4, 0), (0, 10, 23, 4, 1), (0, 10, 27, 4, 2)] 5 (c 155 [aR (11, j, t), aI a0, aI a1] S) (fun v S' => ev c 154 8 [l0, l1, l2, l3, l4] [] (v.toList ++ [t0, t1]) S') (fun a b S' => ev c 154 a ([l0, l1, l2, l3, l4].set b none) [] [] S') := ev_callH rfl (fun E a b h9 => hnd_lt rfl h9) i154_5 rfl
theorem i154_8 : insAt 154 8 = some (.i2l, 1, (0, 0, 0, 0), 0) := rfl
theorem s154_8 {c : Nat → List AV → SS → Option Out} {l0 l1 l2 l3 l4 : Option AV} {x : Int32} {L2 : List (Nat × AV)} {St : List AV} {S : SS} : ev c 154 8 [l0, l1, l2, l3, l4] L2 (aI x :: St) S = ev c 154 9 [l0, l1, l2, l3, l4] L2 (aL x.toInt64 :: St) S := ev_go i154_8 rfl
theorem i154_9 : insAt 154 9 = some (.lastore, 1, (0, 0, 0, 0), 0) := rfl
theorem s154_9 {c : Nat → List AV → SS → Option Out} {l0 l1 l2 l3 l4 : Option AV} {x : Int64} {i : Int32} {o : OId} {L2 : List (Nat × AV)} {St : List AV} {S : SS} : ev c 154 9 [l0, l1, l2, l3, l4] L2 (aL x :: aI i :: aR o :: St) S = kJ o i (ev c 154 10 [l0, l1, l2, l3, l4] L2 St (S.1, setV S.2.1 o i.toNatClampNeg (aL x), S.2.2)) := ev_lastore i154_9
theorem i154_10 : insAt 154 10 = some (.goto 19, 3, (0, 0, 0, 0), 0) := rfl
theorem s154_10 {c : Nat → List AV → SS → Option Out} {l0 l1 l2 l3 l4 : Option AV} {L2 : List (Nat × AV)} {St : List AV} {S : SS} : ev c 154 10 [l0, l1, l2, l3, l4] L2 St S = ev c 154 29 [l0, l1, l2, l3, l4] L2 St S := ev_go i154_10 rfl
theorem i154_15 : insAt 154 15 = some (.iconst 1, 1, (0, 0, 0, 0), 0) := rfl
theorem s154_15 {c : Nat → List AV → SS → Option Out} {l0 l1 l2 l3 l4 : Option AV} {L2 : List (Nat × AV)} {St : List AV} {S : SS} : ev c 154 15 [l0, l1, l2, l3, l4] L2 St S = ev c 154 16 [l0, l1, l2, l3, l4] L2 (aI 1 :: St) S := ev_go i154_15 rfl
theorem i154_16 : insAt 154 16 = some (.ireturn, 1, (0, 0, 0, 0), 0) := rfl
theorem s154_16 {c : Nat → List AV → SS → Option Out} {l0 l1 l2 l3 l4 : Option AV} {x : Int32} {L2 : List (Nat × AV)} {S : SS} : ev c 154 16 [l0, l1, l2, l3, l4] L2 [aI x] S = some (.inl (some (aI x)), S) := ev_end i154_16 rfl
theorem i154_19 : insAt 154 19 = some (.iconst 2, 1, (0, 0, 0, 0), 0) := rfl
theorem s154_19 {c : Nat → List AV → SS → Option Out} {l0 l1 l2 l3 l4 : Option AV} {L2 : List (Nat × AV)} {St : List AV} {S : SS} : ev c 154 19 [l0, l1, l2, l3, l4] L2 St S = ev c 154 20 [l0, l1, l2, l3, l4] L2 (aI 2 :: St) S := ev_go i154_19 rfl
theorem i154_20 : insAt 154 20 = some (.ireturn, 1, (0, 0, 0, 0), 0) := rfl
theorem s154_20 {c : Nat → List AV → SS → Option Out} {l0 l1 l2 l3 l4 : Option AV} {x : Int32} {L2 : List (Nat × AV)} {S : SS} : ev c 154 20 [l0, l1, l2, l3, l4] L2 [aI x] S = some (.inl (some (aI x)), S) := ev_end i154_20 rfl
theorem i154_23 : insAt 154 23 = some (.iconst 3, 1, (0, 0, 0, 0), 0) := rfl
theorem s154_23 {c : Nat → List AV → SS → Option Out} {l0 l1 l2 l3 l4 : Option AV} {L2 : List (Nat × AV)} {St : List AV} {S : SS} : ev c 154 23 [l0, l1, l2, l3, l4] L2 St S = ev c 154 24 [l0, l1, l2, l3, l4] L2 (aI 3 :: St) S := ev_go i154_23 rfl
theorem i154_24 : insAt 154 24 = some (.ireturn, 1, (0, 0, 0, 0), 0) := rfl
theorem s154_24 {c : Nat → List AV → SS → Option Out} {l0 l1 l2 l3 l4 : Option AV} {x : Int32} {L2 : List (Nat × AV)} {S : SS} : ev c 154 24 [l0, l1, l2, l3, l4] L2 [aI x] S = some (.inl (some (aI x)), S) := ev_end i154_24 rfl
theorem i154_27 : insAt 154 27 = some (.iconst 4, 1, (0, 0, 0, 0), 0) := rfl
theorem s154_27 {c : Nat → List AV → SS → Option Out} {l0 l1 l2 l3 l4 : Option AV} {L2 : List (Nat × AV)} {St : List AV} {S : SS} : ev c 154 27 [l0, l1, l2, l3, l4] L2 St S = ev c 154 28 [l0, l1, l2, l3, l4] L2 (aI 4 :: St) S := ev_go i154_27 rfl
theorem i154_28 : insAt 154 28 = some (.ireturn, 1, (0, 0, 0, 0), 0) := rfl
theorem s154_28 {c : Nat → List AV → SS → Option Out} {l0 l1 l2 l3 l4 : Option AV} {x : Int32} {L2 : List (Nat × AV)} {S : SS} : ev c 154 28 [l0, l1, l2, l3, l4] L2 [aI x] S = some (.inl (some (aI x)), S) := ev_end i154_28 rfl
theorem i154_29 : insAt 154 29 = some (.iconst 0, 1, (0, 0, 0, 0), 0) := rfl
theorem s154_29 {c : Nat → List AV → SS → Option Out} {l0 l1 l2 l3 l4 : Option AV} {L2 : List (Nat × AV)} {St : List AV} {S : SS} : ev c 154 29 [l0, l1, l2, l3, l4] L2 St S = ev c 154 30 [l0, l1, l2, l3, l4] L2 (aI 0 :: St) S := ev_go i154_29 rfl
theorem i154_30 : insAt 154 30 = some (.ireturn, 1, (0, 0, 0, 0), 0) := rfl
theorem s154_30 {c : Nat → List AV → SS → Option Out} {l0 l1 l2 l3 l4 : Option AV} {x : Int32} {L2 : List (Nat × AV)} {S : SS} : ev c 154 30 [l0, l1, l2, l3, l4] L2 [aI x] S = some (.inl (some (aI x)), S) := ev_end i154_30 rfl
theorem m154 {d : Nat} {a0 : OId} {a1 : Int32} {a2 : Int32} {a3 : OId} {S : SS} : evm (d + 1) 154 [aR a0, aI a1, aI a2, aR a3] S = ev (evm d) 154 0 [some (aR a0), some (aI a1), some (aI a2), some (aR a3), none] [] [] S := evm_s (n := 5) rfl (Nat.le_of_ble_eq_true rfl) rfl rfl
/-! FrequencyOfficeLaw.complain(LFrequencyOffice;II[J)I -/
theorem i156_0 : insAt 156 0 = some (.aload_n 3, 1, (0, 0, 0, 0), 0) := rfl
theorem s156_0 {c : Nat → List AV → SS → Option Out} {l0 l1 l2 l4 : Option AV} {o : OId} {L2 : List (Nat × AV)} {St : List AV} {S : SS} : ev c 156 0 [l0, l1, l2, some (aR o), l4] L2 St S = ev c 156 1 [l0, l1, l2, some (aR o), l4] L2 (aR o :: St) S := ev_go i156_0 rfl
theorem i156_1 : insAt 156 1 = some (.iconst 0, 1, (0, 0, 0, 0), 0) := rfl
theorem s156_1 {c : Nat → List AV → SS → Option Out} {l0 l1 l2 l3 l4 : Option AV} {L2 : List (Nat × AV)} {St : List AV} {S : SS} : ev c 156 1 [l0, l1, l2, l3, l4] L2 St S = ev c 156 2 [l0, l1, l2, l3, l4] L2 (aI 0 :: St) S := ev_go i156_1 rfl
theorem i156_2 : insAt 156 2 = some (.aload_n 0, 1, (0, 0, 0, 0), 0) := rfl
theorem s156_2 {c : Nat → List AV → SS → Option Out} {l1 l2 l3 l4 : Option AV} {o : OId} {L2 : List (Nat × AV)} {St : List AV} {S : SS} : ev c 156 2 [some (aR o), l1, l2, l3, l4] L2 St S = ev c 156 3 [some (aR o), l1, l2, l3, l4] L2 (aR o :: St) S := ev_go i156_2 rfl
theorem i156_3 : insAt 156 3 = some (.iload_n 1, 1, (0, 0, 0, 0), 0) := rfl
theorem s156_3 {c : Nat → List AV → SS → Option Out} {l0 l2 l3 l4 : Option AV} {x : Int32} {L2 : List (Nat × AV)} {St : List AV} {S : SS} : ev c 156 3 [l0, some (aI x), l2, l3, l4] L2 St S = ev c 156 4 [l0, some (aI x), l2, l3, l4] L2 (aI x :: St) S := ev_go i156_3 rfl
theorem i156_4 : insAt 156 4 = some (.iload_n 2, 1, (0, 0, 0, 0), 0) := rfl
theorem s156_4 {c : Nat → List AV → SS → Option Out} {l0 l1 l3 l4 : Option AV} {x : Int32} {L2 : List (Nat × AV)} {St : List AV} {S : SS} : ev c 156 4 [l0, l1, some (aI x), l3, l4] L2 St S = ev c 156 5 [l0, l1, some (aI x), l3, l4] L2 (aI x :: St) S := ev_go i156_4 rfl
theorem i156_5 : insAt 156 5 = some (.invokevirtual 110, 3, (157, 2, 2, 11), 279) := rfl
theorem s156_5 {c : Nat → List AV → SS → Option Out} {l0 l1 l2 l3 l4 : Option AV} {t0 t1 : AV} {a0 : Int32} {a1 : Int32} {j t : Nat} {S : SS} : ev c 156 5 [l0, l1, l2, l3, l4] [] [aI a1, aI a0, aR (11, j, t), t0, t1] S = ckH [(0, 10, 15, 4, 3), (0, 10, 19, 4, 0), (0, 10, 23, 4, 1), (0, 10, 27, 4, 2)] 5 (c 157 [aR (11, j, t), aI a0, aI a1] S) (fun v S' => ev c 156 8 [l0, l1, l2, l3, l4] [] (v.toList ++ [t0, t1]) S') (fun a b S' => ev c 156 a ([l0, l1, l2, l3, l4].set b none) [] [] S') := ev_callH rfl (fun E a b h9 => hnd_lt rfl h9) i156_5 rfl
theorem i156_8 : insAt 156 8 = some (.i2l, 1, (0, 0, 0, 0), 0) := rfl
theorem s156_8 {c : Nat → List AV → SS → Option Out} {l0 l1 l2 l3 l4 : Option AV} {x : Int32} {L2 : List (Nat × AV)} {St : List AV} {S : SS} : ev c 156 8 [l0, l1, l2, l3, l4] L2 (aI x :: St) S = ev c 156 9 [l0, l1, l2, l3, l4] L2 (aL x.toInt64 :: St) S := ev_go i156_8 rfl
theorem i156_9 : insAt 156 9 = some (.lastore, 1, (0, 0, 0, 0), 0) := rfl
theorem s156_9 {c : Nat → List AV → SS → Option Out} {l0 l1 l2 l3 l4 : Option AV} {x : Int64} {i : Int32} {o : OId} {L2 : List (Nat × AV)} {St : List AV} {S : SS} : ev c 156 9 [l0, l1, l2, l3, l4] L2 (aL x :: aI i :: aR o :: St) S = kJ o i (ev c 156 10 [l0, l1, l2, l3, l4] L2 St (S.1, setV S.2.1 o i.toNatClampNeg (aL x), S.2.2)) := ev_lastore i156_9
theorem i156_10 : insAt 156 10 = some (.goto 19, 3, (0, 0, 0, 0), 0) := rfl
theorem s156_10 {c : Nat → List AV → SS → Option Out} {l0 l1 l2 l3 l4 : Option AV} {L2 : List (Nat × AV)} {St : List AV} {S : SS} : ev c 156 10 [l0, l1, l2, l3, l4] L2 St S = ev c 156 29 [l0, l1, l2, l3, l4] L2 St S := ev_go i156_10 rfl
theorem i156_15 : insAt 156 15 = some (.iconst 1, 1, (0, 0, 0, 0), 0) := rfl
theorem s156_15 {c : Nat → List AV → SS → Option Out} {l0 l1 l2 l3 l4 : Option AV} {L2 : List (Nat × AV)} {St : List AV} {S : SS} : ev c 156 15 [l0, l1, l2, l3, l4] L2 St S = ev c 156 16 [l0, l1, l2, l3, l4] L2 (aI 1 :: St) S := ev_go i156_15 rfl
theorem i156_16 : insAt 156 16 = some (.ireturn, 1, (0, 0, 0, 0), 0) := rfl
theorem s156_16 {c : Nat → List AV → SS → Option Out} {l0 l1 l2 l3 l4 : Option AV} {x : Int32} {L2 : List (Nat × AV)} {S : SS} : ev c 156 16 [l0, l1, l2, l3, l4] L2 [aI x] S = some (.inl (some (aI x)), S) := ev_end i156_16 rfl
theorem i156_19 : insAt 156 19 = some (.iconst 2, 1, (0, 0, 0, 0), 0) := rfl
theorem s156_19 {c : Nat → List AV → SS → Option Out} {l0 l1 l2 l3 l4 : Option AV} {L2 : List (Nat × AV)} {St : List AV} {S : SS} : ev c 156 19 [l0, l1, l2, l3, l4] L2 St S = ev c 156 20 [l0, l1, l2, l3, l4] L2 (aI 2 :: St) S := ev_go i156_19 rfl
theorem i156_20 : insAt 156 20 = some (.ireturn, 1, (0, 0, 0, 0), 0) := rfl
theorem s156_20 {c : Nat → List AV → SS → Option Out} {l0 l1 l2 l3 l4 : Option AV} {x : Int32} {L2 : List (Nat × AV)} {S : SS} : ev c 156 20 [l0, l1, l2, l3, l4] L2 [aI x] S = some (.inl (some (aI x)), S) := ev_end i156_20 rfl
theorem i156_23 : insAt 156 23 = some (.iconst 3, 1, (0, 0, 0, 0), 0) := rfl
theorem s156_23 {c : Nat → List AV → SS → Option Out} {l0 l1 l2 l3 l4 : Option AV} {L2 : List (Nat × AV)} {St : List AV} {S : SS} : ev c 156 23 [l0, l1, l2, l3, l4] L2 St S = ev c 156 24 [l0, l1, l2, l3, l4] L2 (aI 3 :: St) S := ev_go i156_23 rfl
theorem i156_24 : insAt 156 24 = some (.ireturn, 1, (0, 0, 0, 0), 0) := rfl
theorem s156_24 {c : Nat → List AV → SS → Option Out} {l0 l1 l2 l3 l4 : Option AV} {x : Int32} {L2 : List (Nat × AV)} {S : SS} : ev c 156 24 [l0, l1, l2, l3, l4] L2 [aI x] S = some (.inl (some (aI x)), S) := ev_end i156_24 rfl
theorem i156_27 : insAt 156 27 = some (.iconst 4, 1, (0, 0, 0, 0), 0) := rfl
theorem s156_27 {c : Nat → List AV → SS → Option Out} {l0 l1 l2 l3 l4 : Option AV} {L2 : List (Nat × AV)} {St : List AV} {S : SS} : ev c 156 27 [l0, l1, l2, l3, l4] L2 St S = ev c 156 28 [l0, l1, l2, l3, l4] L2 (aI 4 :: St) S := ev_go i156_27 rfl
theorem i156_28 : insAt 156 28 = some (.ireturn, 1, (0, 0, 0, 0), 0) := rfl
theorem s156_28 {c : Nat → List AV → SS → Option Out} {l0 l1 l2 l3 l4 : Option AV} {x : Int32} {L2 : List (Nat × AV)} {S : SS} : ev c 156 28 [l0, l1, l2, l3, l4] L2 [aI x] S = some (.inl (some (aI x)), S) := ev_end i156_28 rfl
theorem i156_29 : insAt 156 29 = some (.iconst 0, 1, (0, 0, 0, 0), 0) := rfl
theorem s156_29 {c : Nat → List AV → SS → Option Out} {l0 l1 l2 l3 l4 : Option AV} {L2 : List (Nat × AV)} {St : List AV} {S : SS} : ev c 156 29 [l0, l1, l2, l3, l4] L2 St S = ev c 156 30 [l0, l1, l2, l3, l4] L2 (aI 0 :: St) S := ev_go i156_29 rfl
theorem i156_30 : insAt 156 30 = some (.ireturn, 1, (0, 0, 0, 0), 0) := rfl
theorem s156_30 {c : Nat → List AV → SS → Option Out} {l0 l1 l2 l3 l4 : Option AV} {x : Int32} {L2 : List (Nat × AV)} {S : SS} : ev c 156 30 [l0, l1, l2, l3, l4] L2 [aI x] S = some (.inl (some (aI x)), S) := ev_end i156_30 rfl
theorem m156 {d : Nat} {a0 : OId} {a1 : Int32} {a2 : Int32} {a3 : OId} {S : SS} : evm (d + 1) 156 [aR a0, aI a1, aI a2, aR a3] S = ev (evm d) 156 0 [some (aR a0), some (aI a1), some (aI a2), some (aR a3), none] [] [] S := evm_s (n := 5) rfl (Nat.le_of_ble_eq_true rfl) rfl rfl
/-! FrequencyOfficeLaw.moveCount(LFrequencyOffice;[J)I -/
theorem i161_0 : insAt 161 0 = some (.aload_n 1, 1, (0, 0, 0, 0), 0) := rfl
theorem s161_0 {c : Nat → List AV → SS → Option Out} {l0 l2 : Option AV} {o : OId} {L2 : List (Nat × AV)} {St : List AV} {S : SS} : ev c 161 0 [l0, some (aR o), l2] L2 St S = ev c 161 1 [l0, some (aR o), l2] L2 (aR o :: St) S := ev_go i161_0 rfl
theorem i161_1 : insAt 161 1 = some (.iconst 0, 1, (0, 0, 0, 0), 0) := rfl
theorem s161_1 {c : Nat → List AV → SS → Option Out} {l0 l1 l2 : Option AV} {L2 : List (Nat × AV)} {St : List AV} {S : SS} : ev c 161 1 [l0, l1, l2] L2 St S = ev c 161 2 [l0, l1, l2] L2 (aI 0 :: St) S := ev_go i161_1 rfl
theorem i161_2 : insAt 161 2 = some (.aload_n 0, 1, (0, 0, 0, 0), 0) := rfl
theorem s161_2 {c : Nat → List AV → SS → Option Out} {l1 l2 : Option AV} {o : OId} {L2 : List (Nat × AV)} {St : List AV} {S : SS} : ev c 161 2 [some (aR o), l1, l2] L2 St S = ev c 161 3 [some (aR o), l1, l2] L2 (aR o :: St) S := ev_go i161_2 rfl
theorem i161_3 : insAt 161 3 = some (.invokevirtual 113, 3, (162, 0, 2, 11), 283) := rfl
theorem s161_3 {c : Nat → List AV → SS → Option Out} {l0 l1 l2 : Option AV} {t0 t1 : AV} {j t : Nat} {S : SS} : ev c 161 3 [l0, l1, l2] [] [aR (11, j, t), t0, t1] S = ckH [(0, 8, 12, 2, 3)] 3 (c 162 [aR (11, j, t)] S) (fun v S' => ev c 161 6 [l0, l1, l2] [] (v.toList ++ [t0, t1]) S') (fun a b S' => ev c 161 a ([l0, l1, l2].set b none) [] [] S') := ev_callH rfl (fun E a b h9 => hnd_lt rfl h9) i161_3 rfl
theorem i161_6 : insAt 161 6 = some (.i2l, 1, (0, 0, 0, 0), 0) := rfl
theorem s161_6 {c : Nat → List AV → SS → Option Out} {l0 l1 l2 : Option AV} {x : Int32} {L2 : List (Nat × AV)} {St : List AV} {S : SS} : ev c 161 6 [l0, l1, l2] L2 (aI x :: St) S = ev c 161 7 [l0, l1, l2] L2 (aL x.toInt64 :: St) S := ev_go i161_6 rfl
theorem i161_7 : insAt 161 7 = some (.lastore, 1, (0, 0, 0, 0), 0) := rfl
theorem s161_7 {c : Nat → List AV → SS → Option Out} {l0 l1 l2 : Option AV} {x : Int64} {i : Int32} {o : OId} {L2 : List (Nat × AV)} {St : List AV} {S : SS} : ev c 161 7 [l0, l1, l2] L2 (aL x :: aI i :: aR o :: St) S = kJ o i (ev c 161 8 [l0, l1, l2] L2 St (S.1, setV S.2.1 o i.toNatClampNeg (aL x), S.2.2)) := ev_lastore i161_7
theorem i161_8 : insAt 161 8 = some (.goto 6, 3, (0, 0, 0, 0), 0) := rfl
theorem s161_8 {c : Nat → List AV → SS → Option Out} {l0 l1 l2 : Option AV} {L2 : List (Nat × AV)} {St : List AV} {S : SS} : ev c 161 8 [l0, l1, l2] L2 St S = ev c 161 14 [l0, l1, l2] L2 St S := ev_go i161_8 rfl
theorem i161_12 : insAt 161 12 = some (.iconst 1, 1, (0, 0, 0, 0), 0) := rfl
theorem s161_12 {c : Nat → List AV → SS → Option Out} {l0 l1 l2 : Option AV} {L2 : List (Nat × AV)} {St : List AV} {S : SS} : ev c 161 12 [l0, l1, l2] L2 St S = ev c 161 13 [l0, l1, l2] L2 (aI 1 :: St) S := ev_go i161_12 rfl
theorem i161_13 : insAt 161 13 = some (.ireturn, 1, (0, 0, 0, 0), 0) := rfl
theorem s161_13 {c : Nat → List AV → SS → Option Out} {l0 l1 l2 : Option AV} {x : Int32} {L2 : List (Nat × AV)} {S : SS} : ev c 161 13 [l0, l1, l2] L2 [aI x] S = some (.inl (some (aI x)), S) := ev_end i161_13 rfl
theorem i161_14 : insAt 161 14 = some (.iconst 0, 1, (0, 0, 0, 0), 0) := rfl
theorem s161_14 {c : Nat → List AV → SS → Option Out} {l0 l1 l2 : Option AV} {L2 : List (Nat × AV)} {St : List AV} {S : SS} : ev c 161 14 [l0, l1, l2] L2 St S = ev c 161 15 [l0, l1, l2] L2 (aI 0 :: St) S := ev_go i161_14 rfl
theorem i161_15 : insAt 161 15 = some (.ireturn, 1, (0, 0, 0, 0), 0) := rfl
theorem s161_15 {c : Nat → List AV → SS → Option Out} {l0 l1 l2 : Option AV} {x : Int32} {L2 : List (Nat × AV)} {S : SS} : ev c 161 15 [l0, l1, l2] L2 [aI x] S = some (.inl (some (aI x)), S) := ev_end i161_15 rfl
theorem m161 {d : Nat} {a0 : OId} {a1 : OId} {S : SS} : evm (d + 1) 161 [aR a0, aR a1] S = ev (evm d) 161 0 [some (aR a0), some (aR a1), none] [] [] S := evm_s (n := 3) rfl (Nat.le_of_ble_eq_true rfl) rfl rfl
/-! FrequencyOfficeLaw.movedStation(LFrequencyOffice;I[J)I -/
theorem i163_0 : insAt 163 0 = some (.aload_n 2, 1, (0, 0, 0, 0), 0) := rfl
theorem s163_0 {c : Nat → List AV → SS → Option Out} {l0 l1 l3 : Option AV} {o : OId} {L2 : List (Nat × AV)} {St : List AV} {S : SS} : ev c 163 0 [l0, l1, some (aR o), l3] L2 St S = ev c 163 1 [l0, l1, some (aR o), l3] L2 (aR o :: St) S := ev_go i163_0 rfl
theorem i163_1 : insAt 163 1 = some (.iconst 0, 1, (0, 0, 0, 0), 0) := rfl
theorem s163_1 {c : Nat → List AV → SS → Option Out} {l0 l1 l2 l3 : Option AV} {L2 : List (Nat × AV)} {St : List AV} {S : SS} : ev c 163 1 [l0, l1, l2, l3] L2 St S = ev c 163 2 [l0, l1, l2, l3] L2 (aI 0 :: St) S := ev_go i163_1 rfl
theorem i163_2 : insAt 163 2 = some (.aload_n 0, 1, (0, 0, 0, 0), 0) := rfl
theorem s163_2 {c : Nat → List AV → SS → Option Out} {l1 l2 l3 : Option AV} {o : OId} {L2 : List (Nat × AV)} {St : List AV} {S : SS} : ev c 163 2 [some (aR o), l1, l2, l3] L2 St S = ev c 163 3 [some (aR o), l1, l2, l3] L2 (aR o :: St) S := ev_go i163_2 rfl
theorem i163_3 : insAt 163 3 = some (.iload_n 1, 1, (0, 0, 0, 0), 0) := rfl
theorem s163_3 {c : Nat → List AV → SS → Option Out} {l0 l2 l3 : Option AV} {x : Int32} {L2 : List (Nat × AV)} {St : List AV} {S : SS} : ev c 163 3 [l0, some (aI x), l2, l3] L2 St S = ev c 163 4 [l0, some (aI x), l2, l3] L2 (aI x :: St) S := ev_go i163_3 rfl
theorem i163_4 : insAt 163 4 = some (.invokevirtual 117, 3, (164, 1, 2, 11), 285) := rfl
theorem s163_4 {c : Nat → List AV → SS → Option Out} {l0 l1 l2 l3 : Option AV} {t0 t1 : AV} {a0 : Int32} {j t : Nat} {S : SS} : ev c 163 4 [l0, l1, l2, l3] [] [aI a0, aR (11, j, t), t0, t1] S = ckH [(0, 9, 13, 3, 3)] 4 (c 164 [aR (11, j, t), aI a0] S) (fun v S' => ev c 163 7 [l0, l1, l2, l3] [] (v.toList ++ [t0, t1]) S') (fun a b S' => ev c 163 a ([l0, l1, l2, l3].set b none) [] [] S') := ev_callH rfl (fun E a b h9 => hnd_lt rfl h9) i163_4 rfl
theorem i163_7 : insAt 163 7 = some (.i2l, 1, (0, 0, 0, 0), 0) := rfl
theorem s163_7 {c : Nat → List AV → SS → Option Out} {l0 l1 l2 l3 : Option AV} {x : Int32} {L2 : List (Nat × AV)} {St : List AV} {S : SS} : ev c 163 7 [l0, l1, l2, l3] L2 (aI x :: St) S = ev c 163 8 [l0, l1, l2, l3] L2 (aL x.toInt64 :: St) S := ev_go i163_7 rfl
theorem i163_8 : insAt 163 8 = some (.lastore, 1, (0, 0, 0, 0), 0) := rfl
theorem s163_8 {c : Nat → List AV → SS → Option Out} {l0 l1 l2 l3 : Option AV} {x : Int64} {i : Int32} {o : OId} {L2 : List (Nat × AV)} {St : List AV} {S : SS} : ev c 163 8 [l0, l1, l2, l3] L2 (aL x :: aI i :: aR o :: St) S = kJ o i (ev c 163 9 [l0, l1, l2, l3] L2 St (S.1, setV S.2.1 o i.toNatClampNeg (aL x), S.2.2)) := ev_lastore i163_8
theorem i163_9 : insAt 163 9 = some (.goto 6, 3, (0, 0, 0, 0), 0) := rfl
theorem s163_9 {c : Nat → List AV → SS → Option Out} {l0 l1 l2 l3 : Option AV} {L2 : List (Nat × AV)} {St : List AV} {S : SS} : ev c 163 9 [l0, l1, l2, l3] L2 St S = ev c 163 15 [l0, l1, l2, l3] L2 St S := ev_go i163_9 rfl
theorem i163_13 : insAt 163 13 = some (.iconst 1, 1, (0, 0, 0, 0), 0) := rfl
theorem s163_13 {c : Nat → List AV → SS → Option Out} {l0 l1 l2 l3 : Option AV} {L2 : List (Nat × AV)} {St : List AV} {S : SS} : ev c 163 13 [l0, l1, l2, l3] L2 St S = ev c 163 14 [l0, l1, l2, l3] L2 (aI 1 :: St) S := ev_go i163_13 rfl
theorem i163_14 : insAt 163 14 = some (.ireturn, 1, (0, 0, 0, 0), 0) := rfl
theorem s163_14 {c : Nat → List AV → SS → Option Out} {l0 l1 l2 l3 : Option AV} {x : Int32} {L2 : List (Nat × AV)} {S : SS} : ev c 163 14 [l0, l1, l2, l3] L2 [aI x] S = some (.inl (some (aI x)), S) := ev_end i163_14 rfl
theorem i163_15 : insAt 163 15 = some (.iconst 0, 1, (0, 0, 0, 0), 0) := rfl
theorem s163_15 {c : Nat → List AV → SS → Option Out} {l0 l1 l2 l3 : Option AV} {L2 : List (Nat × AV)} {St : List AV} {S : SS} : ev c 163 15 [l0, l1, l2, l3] L2 St S = ev c 163 16 [l0, l1, l2, l3] L2 (aI 0 :: St) S := ev_go i163_15 rfl
theorem i163_16 : insAt 163 16 = some (.ireturn, 1, (0, 0, 0, 0), 0) := rfl
theorem s163_16 {c : Nat → List AV → SS → Option Out} {l0 l1 l2 l3 : Option AV} {x : Int32} {L2 : List (Nat × AV)} {S : SS} : ev c 163 16 [l0, l1, l2, l3] L2 [aI x] S = some (.inl (some (aI x)), S) := ev_end i163_16 rfl
theorem m163 {d : Nat} {a0 : OId} {a1 : Int32} {a2 : OId} {S : SS} : evm (d + 1) 163 [aR a0, aI a1, aR a2] S = ev (evm d) 163 0 [some (aR a0), some (aI a1), some (aR a2), none] [] [] S := evm_s (n := 4) rfl (Nat.le_of_ble_eq_true rfl) rfl rfl
/-! FrequencyOfficeLaw.movedFrom(LFrequencyOffice;I[J)I -/
theorem i166_0 : insAt 166 0 = some (.aload_n 2, 1, (0, 0, 0, 0), 0) := rfl
theorem s166_0 {c : Nat → List AV → SS → Option Out} {l0 l1 l3 : Option AV} {o : OId} {L2 : List (Nat × AV)} {St : List AV} {S : SS} : ev c 166 0 [l0, l1, some (aR o), l3] L2 St S = ev c 166 1 [l0, l1, some (aR o), l3] L2 (aR o :: St) S := ev_go i166_0 rfl
theorem i166_1 : insAt 166 1 = some (.iconst 0, 1, (0, 0, 0, 0), 0) := rfl
theorem s166_1 {c : Nat → List AV → SS → Option Out} {l0 l1 l2 l3 : Option AV} {L2 : List (Nat × AV)} {St : List AV} {S : SS} : ev c 166 1 [l0, l1, l2, l3] L2 St S = ev c 166 2 [l0, l1, l2, l3] L2 (aI 0 :: St) S := ev_go i166_1 rfl
theorem i166_2 : insAt 166 2 = some (.aload_n 0, 1, (0, 0, 0, 0), 0) := rfl
theorem s166_2 {c : Nat → List AV → SS → Option Out} {l1 l2 l3 : Option AV} {o : OId} {L2 : List (Nat × AV)} {St : List AV} {S : SS} : ev c 166 2 [some (aR o), l1, l2, l3] L2 St S = ev c 166 3 [some (aR o), l1, l2, l3] L2 (aR o :: St) S := ev_go i166_2 rfl
theorem i166_3 : insAt 166 3 = some (.iload_n 1, 1, (0, 0, 0, 0), 0) := rfl
theorem s166_3 {c : Nat → List AV → SS → Option Out} {l0 l2 l3 : Option AV} {x : Int32} {L2 : List (Nat × AV)} {St : List AV} {S : SS} : ev c 166 3 [l0, some (aI x), l2, l3] L2 St S = ev c 166 4 [l0, some (aI x), l2, l3] L2 (aI x :: St) S := ev_go i166_3 rfl
theorem i166_4 : insAt 166 4 = some (.invokevirtual 120, 3, (167, 1, 2, 11), 289) := rfl
theorem s166_4 {c : Nat → List AV → SS → Option Out} {l0 l1 l2 l3 : Option AV} {t0 t1 : AV} {a0 : Int32} {j t : Nat} {S : SS} : ev c 166 4 [l0, l1, l2, l3] [] [aI a0, aR (11, j, t), t0, t1] S = ckH [(0, 9, 13, 3, 3)] 4 (c 167 [aR (11, j, t), aI a0] S) (fun v S' => ev c 166 7 [l0, l1, l2, l3] [] (v.toList ++ [t0, t1]) S') (fun a b S' => ev c 166 a ([l0, l1, l2, l3].set b none) [] [] S') := ev_callH rfl (fun E a b h9 => hnd_lt rfl h9) i166_4 rfl
theorem i166_7 : insAt 166 7 = some (.i2l, 1, (0, 0, 0, 0), 0) := rfl
theorem s166_7 {c : Nat → List AV → SS → Option Out} {l0 l1 l2 l3 : Option AV} {x : Int32} {L2 : List (Nat × AV)} {St : List AV} {S : SS} : ev c 166 7 [l0, l1, l2, l3] L2 (aI x :: St) S = ev c 166 8 [l0, l1, l2, l3] L2 (aL x.toInt64 :: St) S := ev_go i166_7 rfl
theorem i166_8 : insAt 166 8 = some (.lastore, 1, (0, 0, 0, 0), 0) := rfl
theorem s166_8 {c : Nat → List AV → SS → Option Out} {l0 l1 l2 l3 : Option AV} {x : Int64} {i : Int32} {o : OId} {L2 : List (Nat × AV)} {St : List AV} {S : SS} : ev c 166 8 [l0, l1, l2, l3] L2 (aL x :: aI i :: aR o :: St) S = kJ o i (ev c 166 9 [l0, l1, l2, l3] L2 St (S.1, setV S.2.1 o i.toNatClampNeg (aL x), S.2.2)) := ev_lastore i166_8
theorem i166_9 : insAt 166 9 = some (.goto 6, 3, (0, 0, 0, 0), 0) := rfl
theorem s166_9 {c : Nat → List AV → SS → Option Out} {l0 l1 l2 l3 : Option AV} {L2 : List (Nat × AV)} {St : List AV} {S : SS} : ev c 166 9 [l0, l1, l2, l3] L2 St S = ev c 166 15 [l0, l1, l2, l3] L2 St S := ev_go i166_9 rfl
theorem i166_13 : insAt 166 13 = some (.iconst 1, 1, (0, 0, 0, 0), 0) := rfl
theorem s166_13 {c : Nat → List AV → SS → Option Out} {l0 l1 l2 l3 : Option AV} {L2 : List (Nat × AV)} {St : List AV} {S : SS} : ev c 166 13 [l0, l1, l2, l3] L2 St S = ev c 166 14 [l0, l1, l2, l3] L2 (aI 1 :: St) S := ev_go i166_13 rfl
theorem i166_14 : insAt 166 14 = some (.ireturn, 1, (0, 0, 0, 0), 0) := rfl
theorem s166_14 {c : Nat → List AV → SS → Option Out} {l0 l1 l2 l3 : Option AV} {x : Int32} {L2 : List (Nat × AV)} {S : SS} : ev c 166 14 [l0, l1, l2, l3] L2 [aI x] S = some (.inl (some (aI x)), S) := ev_end i166_14 rfl
theorem i166_15 : insAt 166 15 = some (.iconst 0, 1, (0, 0, 0, 0), 0) := rfl
theorem s166_15 {c : Nat → List AV → SS → Option Out} {l0 l1 l2 l3 : Option AV} {L2 : List (Nat × AV)} {St : List AV} {S : SS} : ev c 166 15 [l0, l1, l2, l3] L2 St S = ev c 166 16 [l0, l1, l2, l3] L2 (aI 0 :: St) S := ev_go i166_15 rfl
theorem i166_16 : insAt 166 16 = some (.ireturn, 1, (0, 0, 0, 0), 0) := rfl
theorem s166_16 {c : Nat → List AV → SS → Option Out} {l0 l1 l2 l3 : Option AV} {x : Int32} {L2 : List (Nat × AV)} {S : SS} : ev c 166 16 [l0, l1, l2, l3] L2 [aI x] S = some (.inl (some (aI x)), S) := ev_end i166_16 rfl
theorem m166 {d : Nat} {a0 : OId} {a1 : Int32} {a2 : OId} {S : SS} : evm (d + 1) 166 [aR a0, aI a1, aR a2] S = ev (evm d) 166 0 [some (aR a0), some (aI a1), some (aR a2), none] [] [] S := evm_s (n := 4) rfl (Nat.le_of_ble_eq_true rfl) rfl rfl
/-! FrequencyOfficeLaw.movedTo(LFrequencyOffice;I[J)I -/
theorem i168_0 : insAt 168 0 = some (.aload_n 2, 1, (0, 0, 0, 0), 0) := rfl
theorem s168_0 {c : Nat → List AV → SS → Option Out} {l0 l1 l3 : Option AV} {o : OId} {L2 : List (Nat × AV)} {St : List AV} {S : SS} : ev c 168 0 [l0, l1, some (aR o), l3] L2 St S = ev c 168 1 [l0, l1, some (aR o), l3] L2 (aR o :: St) S := ev_go i168_0 rfl
theorem i168_1 : insAt 168 1 = some (.iconst 0, 1, (0, 0, 0, 0), 0) := rfl
theorem s168_1 {c : Nat → List AV → SS → Option Out} {l0 l1 l2 l3 : Option AV} {L2 : List (Nat × AV)} {St : List AV} {S : SS} : ev c 168 1 [l0, l1, l2, l3] L2 St S = ev c 168 2 [l0, l1, l2, l3] L2 (aI 0 :: St) S := ev_go i168_1 rfl
theorem i168_2 : insAt 168 2 = some (.aload_n 0, 1, (0, 0, 0, 0), 0) := rfl
theorem s168_2 {c : Nat → List AV → SS → Option Out} {l1 l2 l3 : Option AV} {o : OId} {L2 : List (Nat × AV)} {St : List AV} {S : SS} : ev c 168 2 [some (aR o), l1, l2, l3] L2 St S = ev c 168 3 [some (aR o), l1, l2, l3] L2 (aR o :: St) S := ev_go i168_2 rfl
theorem i168_3 : insAt 168 3 = some (.iload_n 1, 1, (0, 0, 0, 0), 0) := rfl
theorem s168_3 {c : Nat → List AV → SS → Option Out} {l0 l2 l3 : Option AV} {x : Int32} {L2 : List (Nat × AV)} {St : List AV} {S : SS} : ev c 168 3 [l0, some (aI x), l2, l3] L2 St S = ev c 168 4 [l0, some (aI x), l2, l3] L2 (aI x :: St) S := ev_go i168_3 rfl
theorem i168_4 : insAt 168 4 = some (.invokevirtual 123, 3, (169, 1, 2, 11), 291) := rfl
theorem s168_4 {c : Nat → List AV → SS → Option Out} {l0 l1 l2 l3 : Option AV} {t0 t1 : AV} {a0 : Int32} {j t : Nat} {S : SS} : ev c 168 4 [l0, l1, l2, l3] [] [aI a0, aR (11, j, t), t0, t1] S = ckH [(0, 9, 13, 3, 3)] 4 (c 169 [aR (11, j, t), aI a0] S) (fun v S' => ev c 168 7 [l0, l1, l2, l3] [] (v.toList ++ [t0, t1]) S') (fun a b S' => ev c 168 a ([l0, l1, l2, l3].set b none) [] [] S') := ev_callH rfl (fun E a b h9 => hnd_lt rfl h9) i168_4 rfl
theorem i168_7 : insAt 168 7 = some (.i2l, 1, (0, 0, 0, 0), 0) := rfl
theorem s168_7 {c : Nat → List AV → SS → Option Out} {l0 l1 l2 l3 : Option AV} {x : Int32} {L2 : List (Nat × AV)} {St : List AV} {S : SS} : ev c 168 7 [l0, l1, l2, l3] L2 (aI x :: St) S = ev c 168 8 [l0, l1, l2, l3] L2 (aL x.toInt64 :: St) S := ev_go i168_7 rfl
theorem i168_8 : insAt 168 8 = some (.lastore, 1, (0, 0, 0, 0), 0) := rfl
theorem s168_8 {c : Nat → List AV → SS → Option Out} {l0 l1 l2 l3 : Option AV} {x : Int64} {i : Int32} {o : OId} {L2 : List (Nat × AV)} {St : List AV} {S : SS} : ev c 168 8 [l0, l1, l2, l3] L2 (aL x :: aI i :: aR o :: St) S = kJ o i (ev c 168 9 [l0, l1, l2, l3] L2 St (S.1, setV S.2.1 o i.toNatClampNeg (aL x), S.2.2)) := ev_lastore i168_8
theorem i168_9 : insAt 168 9 = some (.goto 6, 3, (0, 0, 0, 0), 0) := rfl
theorem s168_9 {c : Nat → List AV → SS → Option Out} {l0 l1 l2 l3 : Option AV} {L2 : List (Nat × AV)} {St : List AV} {S : SS} : ev c 168 9 [l0, l1, l2, l3] L2 St S = ev c 168 15 [l0, l1, l2, l3] L2 St S := ev_go i168_9 rfl
theorem i168_13 : insAt 168 13 = some (.iconst 1, 1, (0, 0, 0, 0), 0) := rfl
theorem s168_13 {c : Nat → List AV → SS → Option Out} {l0 l1 l2 l3 : Option AV} {L2 : List (Nat × AV)} {St : List AV} {S : SS} : ev c 168 13 [l0, l1, l2, l3] L2 St S = ev c 168 14 [l0, l1, l2, l3] L2 (aI 1 :: St) S := ev_go i168_13 rfl
theorem i168_14 : insAt 168 14 = some (.ireturn, 1, (0, 0, 0, 0), 0) := rfl
theorem s168_14 {c : Nat → List AV → SS → Option Out} {l0 l1 l2 l3 : Option AV} {x : Int32} {L2 : List (Nat × AV)} {S : SS} : ev c 168 14 [l0, l1, l2, l3] L2 [aI x] S = some (.inl (some (aI x)), S) := ev_end i168_14 rfl
theorem i168_15 : insAt 168 15 = some (.iconst 0, 1, (0, 0, 0, 0), 0) := rfl
theorem s168_15 {c : Nat → List AV → SS → Option Out} {l0 l1 l2 l3 : Option AV} {L2 : List (Nat × AV)} {St : List AV} {S : SS} : ev c 168 15 [l0, l1, l2, l3] L2 St S = ev c 168 16 [l0, l1, l2, l3] L2 (aI 0 :: St) S := ev_go i168_15 rfl
theorem i168_16 : insAt 168 16 = some (.ireturn, 1, (0, 0, 0, 0), 0) := rfl
theorem s168_16 {c : Nat → List AV → SS → Option Out} {l0 l1 l2 l3 : Option AV} {x : Int32} {L2 : List (Nat × AV)} {S : SS} : ev c 168 16 [l0, l1, l2, l3] L2 [aI x] S = some (.inl (some (aI x)), S) := ev_end i168_16 rfl
theorem m168 {d : Nat} {a0 : OId} {a1 : Int32} {a2 : OId} {S : SS} : evm (d + 1) 168 [aR a0, aI a1, aR a2] S = ev (evm d) 168 0 [some (aR a0), some (aI a1), some (aR a2), none] [] [] S := evm_s (n := 4) rfl (Nat.le_of_ble_eq_true rfl) rfl rfl
/-! FrequencyOfficeLaw.writeStation(LFrequencyOffice;I[J)I -/
theorem i170_0 : insAt 170 0 = some (.aload_n 2, 1, (0, 0, 0, 0), 0) := rfl
theorem s170_0 {c : Nat → List AV → SS → Option Out} {l0 l1 l3 : Option AV} {o : OId} {L2 : List (Nat × AV)} {St : List AV} {S : SS} : ev c 170 0 [l0, l1, some (aR o), l3] L2 St S = ev c 170 1 [l0, l1, some (aR o), l3] L2 (aR o :: St) S := ev_go i170_0 rfl
theorem i170_1 : insAt 170 1 = some (.iconst 0, 1, (0, 0, 0, 0), 0) := rfl
theorem s170_1 {c : Nat → List AV → SS → Option Out} {l0 l1 l2 l3 : Option AV} {L2 : List (Nat × AV)} {St : List AV} {S : SS} : ev c 170 1 [l0, l1, l2, l3] L2 St S = ev c 170 2 [l0, l1, l2, l3] L2 (aI 0 :: St) S := ev_go i170_1 rfl
theorem i170_2 : insAt 170 2 = some (.aload_n 0, 1, (0, 0, 0, 0), 0) := rfl
theorem s170_2 {c : Nat → List AV → SS → Option Out} {l1 l2 l3 : Option AV} {o : OId} {L2 : List (Nat × AV)} {St : List AV} {S : SS} : ev c 170 2 [some (aR o), l1, l2, l3] L2 St S = ev c 170 3 [some (aR o), l1, l2, l3] L2 (aR o :: St) S := ev_go i170_2 rfl
theorem i170_3 : insAt 170 3 = some (.iload_n 1, 1, (0, 0, 0, 0), 0) := rfl
theorem s170_3 {c : Nat → List AV → SS → Option Out} {l0 l2 l3 : Option AV} {x : Int32} {L2 : List (Nat × AV)} {St : List AV} {S : SS} : ev c 170 3 [l0, some (aI x), l2, l3] L2 St S = ev c 170 4 [l0, some (aI x), l2, l3] L2 (aI x :: St) S := ev_go i170_3 rfl
theorem i170_4 : insAt 170 4 = some (.invokevirtual 126, 3, (171, 1, 2, 11), 293) := rfl
theorem s170_4 {c : Nat → List AV → SS → Option Out} {l0 l1 l2 l3 : Option AV} {t0 t1 : AV} {a0 : Int32} {j t : Nat} {S : SS} : ev c 170 4 [l0, l1, l2, l3] [] [aI a0, aR (11, j, t), t0, t1] S = ckH [(0, 9, 13, 3, 3)] 4 (c 171 [aR (11, j, t), aI a0] S) (fun v S' => ev c 170 7 [l0, l1, l2, l3] [] (v.toList ++ [t0, t1]) S') (fun a b S' => ev c 170 a ([l0, l1, l2, l3].set b none) [] [] S') := ev_callH rfl (fun E a b h9 => hnd_lt rfl h9) i170_4 rfl
theorem i170_7 : insAt 170 7 = some (.i2l, 1, (0, 0, 0, 0), 0) := rfl
theorem s170_7 {c : Nat → List AV → SS → Option Out} {l0 l1 l2 l3 : Option AV} {x : Int32} {L2 : List (Nat × AV)} {St : List AV} {S : SS} : ev c 170 7 [l0, l1, l2, l3] L2 (aI x :: St) S = ev c 170 8 [l0, l1, l2, l3] L2 (aL x.toInt64 :: St) S := ev_go i170_7 rfl
theorem i170_8 : insAt 170 8 = some (.lastore, 1, (0, 0, 0, 0), 0) := rfl
theorem s170_8 {c : Nat → List AV → SS → Option Out} {l0 l1 l2 l3 : Option AV} {x : Int64} {i : Int32} {o : OId} {L2 : List (Nat × AV)} {St : List AV} {S : SS} : ev c 170 8 [l0, l1, l2, l3] L2 (aL x :: aI i :: aR o :: St) S = kJ o i (ev c 170 9 [l0, l1, l2, l3] L2 St (S.1, setV S.2.1 o i.toNatClampNeg (aL x), S.2.2)) := ev_lastore i170_8
theorem i170_9 : insAt 170 9 = some (.goto 6, 3, (0, 0, 0, 0), 0) := rfl
theorem s170_9 {c : Nat → List AV → SS → Option Out} {l0 l1 l2 l3 : Option AV} {L2 : List (Nat × AV)} {St : List AV} {S : SS} : ev c 170 9 [l0, l1, l2, l3] L2 St S = ev c 170 15 [l0, l1, l2, l3] L2 St S := ev_go i170_9 rfl
theorem i170_13 : insAt 170 13 = some (.iconst 1, 1, (0, 0, 0, 0), 0) := rfl
theorem s170_13 {c : Nat → List AV → SS → Option Out} {l0 l1 l2 l3 : Option AV} {L2 : List (Nat × AV)} {St : List AV} {S : SS} : ev c 170 13 [l0, l1, l2, l3] L2 St S = ev c 170 14 [l0, l1, l2, l3] L2 (aI 1 :: St) S := ev_go i170_13 rfl
theorem i170_14 : insAt 170 14 = some (.ireturn, 1, (0, 0, 0, 0), 0) := rfl
theorem s170_14 {c : Nat → List AV → SS → Option Out} {l0 l1 l2 l3 : Option AV} {x : Int32} {L2 : List (Nat × AV)} {S : SS} : ev c 170 14 [l0, l1, l2, l3] L2 [aI x] S = some (.inl (some (aI x)), S) := ev_end i170_14 rfl
theorem i170_15 : insAt 170 15 = some (.iconst 0, 1, (0, 0, 0, 0), 0) := rfl
theorem s170_15 {c : Nat → List AV → SS → Option Out} {l0 l1 l2 l3 : Option AV} {L2 : List (Nat × AV)} {St : List AV} {S : SS} : ev c 170 15 [l0, l1, l2, l3] L2 St S = ev c 170 16 [l0, l1, l2, l3] L2 (aI 0 :: St) S := ev_go i170_15 rfl
theorem i170_16 : insAt 170 16 = some (.ireturn, 1, (0, 0, 0, 0), 0) := rfl
theorem s170_16 {c : Nat → List AV → SS → Option Out} {l0 l1 l2 l3 : Option AV} {x : Int32} {L2 : List (Nat × AV)} {S : SS} : ev c 170 16 [l0, l1, l2, l3] L2 [aI x] S = some (.inl (some (aI x)), S) := ev_end i170_16 rfl
theorem m170 {d : Nat} {a0 : OId} {a1 : Int32} {a2 : OId} {S : SS} : evm (d + 1) 170 [aR a0, aI a1, aR a2] S = ev (evm d) 170 0 [some (aR a0), some (aI a1), some (aR a2), none] [] [] S := evm_s (n := 4) rfl (Nat.le_of_ble_eq_true rfl) rfl rfl
/-! FrequencyOfficeLaw.lineAt(LFrequencyOffice;I[J)I -/
theorem i204_0 : insAt 204 0 = some (.aload_n 2, 1, (0, 0, 0, 0), 0) := rfl
theorem s204_0 {c : Nat → List AV → SS → Option Out} {l0 l1 l3 : Option AV} {o : OId} {L2 : List (Nat × AV)} {St : List AV} {S : SS} : ev c 204 0 [l0, l1, some (aR o), l3] L2 St S = ev c 204 1 [l0, l1, some (aR o), l3] L2 (aR o :: St) S := ev_go i204_0 rfl
theorem i204_1 : insAt 204 1 = some (.iconst 0, 1, (0, 0, 0, 0), 0) := rfl
theorem s204_1 {c : Nat → List AV → SS → Option Out} {l0 l1 l2 l3 : Option AV} {L2 : List (Nat × AV)} {St : List AV} {S : SS} : ev c 204 1 [l0, l1, l2, l3] L2 St S = ev c 204 2 [l0, l1, l2, l3] L2 (aI 0 :: St) S := ev_go i204_1 rfl
theorem i204_2 : insAt 204 2 = some (.aload_n 0, 1, (0, 0, 0, 0), 0) := rfl
theorem s204_2 {c : Nat → List AV → SS → Option Out} {l1 l2 l3 : Option AV} {o : OId} {L2 : List (Nat × AV)} {St : List AV} {S : SS} : ev c 204 2 [some (aR o), l1, l2, l3] L2 St S = ev c 204 3 [some (aR o), l1, l2, l3] L2 (aR o :: St) S := ev_go i204_2 rfl
theorem i204_3 : insAt 204 3 = some (.iload_n 1, 1, (0, 0, 0, 0), 0) := rfl
theorem s204_3 {c : Nat → List AV → SS → Option Out} {l0 l2 l3 : Option AV} {x : Int32} {L2 : List (Nat × AV)} {St : List AV} {S : SS} : ev c 204 3 [l0, some (aI x), l2, l3] L2 St S = ev c 204 4 [l0, some (aI x), l2, l3] L2 (aI x :: St) S := ev_go i204_3 rfl
theorem i204_4 : insAt 204 4 = some (.invokevirtual 129, 3, (205, 1, 2, 11), 353) := rfl
theorem s204_4 {c : Nat → List AV → SS → Option Out} {l0 l1 l2 l3 : Option AV} {t0 t1 : AV} {a0 : Int32} {j t : Nat} {S : SS} : ev c 204 4 [l0, l1, l2, l3] [] [aI a0, aR (11, j, t), t0, t1] S = ckH [(0, 9, 13, 3, 4)] 4 (c 205 [aR (11, j, t), aI a0] S) (fun v S' => ev c 204 7 [l0, l1, l2, l3] [] (v.toList ++ [t0, t1]) S') (fun a b S' => ev c 204 a ([l0, l1, l2, l3].set b none) [] [] S') := ev_callH rfl (fun E a b h9 => hnd_lt rfl h9) i204_4 rfl
theorem i204_7 : insAt 204 7 = some (.i2l, 1, (0, 0, 0, 0), 0) := rfl
theorem s204_7 {c : Nat → List AV → SS → Option Out} {l0 l1 l2 l3 : Option AV} {x : Int32} {L2 : List (Nat × AV)} {St : List AV} {S : SS} : ev c 204 7 [l0, l1, l2, l3] L2 (aI x :: St) S = ev c 204 8 [l0, l1, l2, l3] L2 (aL x.toInt64 :: St) S := ev_go i204_7 rfl
theorem i204_8 : insAt 204 8 = some (.lastore, 1, (0, 0, 0, 0), 0) := rfl
theorem s204_8 {c : Nat → List AV → SS → Option Out} {l0 l1 l2 l3 : Option AV} {x : Int64} {i : Int32} {o : OId} {L2 : List (Nat × AV)} {St : List AV} {S : SS} : ev c 204 8 [l0, l1, l2, l3] L2 (aL x :: aI i :: aR o :: St) S = kJ o i (ev c 204 9 [l0, l1, l2, l3] L2 St (S.1, setV S.2.1 o i.toNatClampNeg (aL x), S.2.2)) := ev_lastore i204_8
theorem i204_9 : insAt 204 9 = some (.goto 6, 3, (0, 0, 0, 0), 0) := rfl
theorem s204_9 {c : Nat → List AV → SS → Option Out} {l0 l1 l2 l3 : Option AV} {L2 : List (Nat × AV)} {St : List AV} {S : SS} : ev c 204 9 [l0, l1, l2, l3] L2 St S = ev c 204 15 [l0, l1, l2, l3] L2 St S := ev_go i204_9 rfl
theorem i204_13 : insAt 204 13 = some (.iconst 1, 1, (0, 0, 0, 0), 0) := rfl
theorem s204_13 {c : Nat → List AV → SS → Option Out} {l0 l1 l2 l3 : Option AV} {L2 : List (Nat × AV)} {St : List AV} {S : SS} : ev c 204 13 [l0, l1, l2, l3] L2 St S = ev c 204 14 [l0, l1, l2, l3] L2 (aI 1 :: St) S := ev_go i204_13 rfl
theorem i204_14 : insAt 204 14 = some (.ireturn, 1, (0, 0, 0, 0), 0) := rfl
theorem s204_14 {c : Nat → List AV → SS → Option Out} {l0 l1 l2 l3 : Option AV} {x : Int32} {L2 : List (Nat × AV)} {S : SS} : ev c 204 14 [l0, l1, l2, l3] L2 [aI x] S = some (.inl (some (aI x)), S) := ev_end i204_14 rfl
theorem i204_15 : insAt 204 15 = some (.iconst 0, 1, (0, 0, 0, 0), 0) := rfl
theorem s204_15 {c : Nat → List AV → SS → Option Out} {l0 l1 l2 l3 : Option AV} {L2 : List (Nat × AV)} {St : List AV} {S : SS} : ev c 204 15 [l0, l1, l2, l3] L2 St S = ev c 204 16 [l0, l1, l2, l3] L2 (aI 0 :: St) S := ev_go i204_15 rfl
theorem i204_16 : insAt 204 16 = some (.ireturn, 1, (0, 0, 0, 0), 0) := rfl
theorem s204_16 {c : Nat → List AV → SS → Option Out} {l0 l1 l2 l3 : Option AV} {x : Int32} {L2 : List (Nat × AV)} {S : SS} : ev c 204 16 [l0, l1, l2, l3] L2 [aI x] S = some (.inl (some (aI x)), S) := ev_end i204_16 rfl
theorem m204 {d : Nat} {a0 : OId} {a1 : Int32} {a2 : OId} {S : SS} : evm (d + 1) 204 [aR a0, aI a1, aR a2] S = ev (evm d) 204 0 [some (aR a0), some (aI a1), some (aR a2), none] [] [] S := evm_s (n := 4) rfl (Nat.le_of_ble_eq_true rfl) rfl rfl
/-! FrequencyOfficeLaw.undo(LFrequencyOffice;[J)I -/
theorem i208_0 : insAt 208 0 = some (.aload_n 1, 1, (0, 0, 0, 0), 0) := rfl
theorem s208_0 {c : Nat → List AV → SS → Option Out} {l0 l2 : Option AV} {o : OId} {L2 : List (Nat × AV)} {St : List AV} {S : SS} : ev c 208 0 [l0, some (aR o), l2] L2 St S = ev c 208 1 [l0, some (aR o), l2] L2 (aR o :: St) S := ev_go i208_0 rfl
theorem i208_1 : insAt 208 1 = some (.iconst 0, 1, (0, 0, 0, 0), 0) := rfl
theorem s208_1 {c : Nat → List AV → SS → Option Out} {l0 l1 l2 : Option AV} {L2 : List (Nat × AV)} {St : List AV} {S : SS} : ev c 208 1 [l0, l1, l2] L2 St S = ev c 208 2 [l0, l1, l2] L2 (aI 0 :: St) S := ev_go i208_1 rfl
theorem i208_2 : insAt 208 2 = some (.aload_n 0, 1, (0, 0, 0, 0), 0) := rfl
theorem s208_2 {c : Nat → List AV → SS → Option Out} {l1 l2 : Option AV} {o : OId} {L2 : List (Nat × AV)} {St : List AV} {S : SS} : ev c 208 2 [some (aR o), l1, l2] L2 St S = ev c 208 3 [some (aR o), l1, l2] L2 (aR o :: St) S := ev_go i208_2 rfl
theorem i208_3 : insAt 208 3 = some (.invokevirtual 133, 3, (209, 0, 2, 11), 358) := rfl
theorem s208_3 {c : Nat → List AV → SS → Option Out} {l0 l1 l2 : Option AV} {t0 t1 : AV} {j t : Nat} {S : SS} : ev c 208 3 [l0, l1, l2] [] [aR (11, j, t), t0, t1] S = ckH [(0, 8, 12, 2, 1)] 3 (c 209 [aR (11, j, t)] S) (fun v S' => ev c 208 6 [l0, l1, l2] [] (v.toList ++ [t0, t1]) S') (fun a b S' => ev c 208 a ([l0, l1, l2].set b none) [] [] S') := ev_callH rfl (fun E a b h9 => hnd_lt rfl h9) i208_3 rfl
theorem i208_6 : insAt 208 6 = some (.i2l, 1, (0, 0, 0, 0), 0) := rfl
theorem s208_6 {c : Nat → List AV → SS → Option Out} {l0 l1 l2 : Option AV} {x : Int32} {L2 : List (Nat × AV)} {St : List AV} {S : SS} : ev c 208 6 [l0, l1, l2] L2 (aI x :: St) S = ev c 208 7 [l0, l1, l2] L2 (aL x.toInt64 :: St) S := ev_go i208_6 rfl
theorem i208_7 : insAt 208 7 = some (.lastore, 1, (0, 0, 0, 0), 0) := rfl
theorem s208_7 {c : Nat → List AV → SS → Option Out} {l0 l1 l2 : Option AV} {x : Int64} {i : Int32} {o : OId} {L2 : List (Nat × AV)} {St : List AV} {S : SS} : ev c 208 7 [l0, l1, l2] L2 (aL x :: aI i :: aR o :: St) S = kJ o i (ev c 208 8 [l0, l1, l2] L2 St (S.1, setV S.2.1 o i.toNatClampNeg (aL x), S.2.2)) := ev_lastore i208_7
theorem i208_8 : insAt 208 8 = some (.goto 6, 3, (0, 0, 0, 0), 0) := rfl
theorem s208_8 {c : Nat → List AV → SS → Option Out} {l0 l1 l2 : Option AV} {L2 : List (Nat × AV)} {St : List AV} {S : SS} : ev c 208 8 [l0, l1, l2] L2 St S = ev c 208 14 [l0, l1, l2] L2 St S := ev_go i208_8 rfl
theorem i208_12 : insAt 208 12 = some (.iconst 1, 1, (0, 0, 0, 0), 0) := rfl
theorem s208_12 {c : Nat → List AV → SS → Option Out} {l0 l1 l2 : Option AV} {L2 : List (Nat × AV)} {St : List AV} {S : SS} : ev c 208 12 [l0, l1, l2] L2 St S = ev c 208 13 [l0, l1, l2] L2 (aI 1 :: St) S := ev_go i208_12 rfl
theorem i208_13 : insAt 208 13 = some (.ireturn, 1, (0, 0, 0, 0), 0) := rfl
theorem s208_13 {c : Nat → List AV → SS → Option Out} {l0 l1 l2 : Option AV} {x : Int32} {L2 : List (Nat × AV)} {S : SS} : ev c 208 13 [l0, l1, l2] L2 [aI x] S = some (.inl (some (aI x)), S) := ev_end i208_13 rfl
theorem i208_14 : insAt 208 14 = some (.iconst 0, 1, (0, 0, 0, 0), 0) := rfl
theorem s208_14 {c : Nat → List AV → SS → Option Out} {l0 l1 l2 : Option AV} {L2 : List (Nat × AV)} {St : List AV} {S : SS} : ev c 208 14 [l0, l1, l2] L2 St S = ev c 208 15 [l0, l1, l2] L2 (aI 0 :: St) S := ev_go i208_14 rfl
theorem i208_15 : insAt 208 15 = some (.ireturn, 1, (0, 0, 0, 0), 0) := rfl
theorem s208_15 {c : Nat → List AV → SS → Option Out} {l0 l1 l2 : Option AV} {x : Int32} {L2 : List (Nat × AV)} {S : SS} : ev c 208 15 [l0, l1, l2] L2 [aI x] S = some (.inl (some (aI x)), S) := ev_end i208_15 rfl
theorem m208 {d : Nat} {a0 : OId} {a1 : OId} {S : SS} : evm (d + 1) 208 [aR a0, aR a1] S = ev (evm d) 208 0 [some (aR a0), some (aR a1), none] [] [] S := evm_s (n := 3) rfl (Nat.le_of_ble_eq_true rfl) rfl rfl
/-! FrequencyOfficeLaw.restore(LFrequencyOffice;[J)I -/
theorem i211_0 : insAt 211 0 = some (.aload_n 1, 1, (0, 0, 0, 0), 0) := rfl
theorem s211_0 {c : Nat → List AV → SS → Option Out} {l0 l2 : Option AV} {o : OId} {L2 : List (Nat × AV)} {St : List AV} {S : SS} : ev c 211 0 [l0, some (aR o), l2] L2 St S = ev c 211 1 [l0, some (aR o), l2] L2 (aR o :: St) S := ev_go i211_0 rfl
theorem i211_1 : insAt 211 1 = some (.iconst 0, 1, (0, 0, 0, 0), 0) := rfl
theorem s211_1 {c : Nat → List AV → SS → Option Out} {l0 l1 l2 : Option AV} {L2 : List (Nat × AV)} {St : List AV} {S : SS} : ev c 211 1 [l0, l1, l2] L2 St S = ev c 211 2 [l0, l1, l2] L2 (aI 0 :: St) S := ev_go i211_1 rfl
theorem i211_2 : insAt 211 2 = some (.aload_n 0, 1, (0, 0, 0, 0), 0) := rfl
theorem s211_2 {c : Nat → List AV → SS → Option Out} {l1 l2 : Option AV} {o : OId} {L2 : List (Nat × AV)} {St : List AV} {S : SS} : ev c 211 2 [some (aR o), l1, l2] L2 St S = ev c 211 3 [some (aR o), l1, l2] L2 (aR o :: St) S := ev_go i211_2 rfl
theorem i211_3 : insAt 211 3 = some (.invokevirtual 136, 3, (212, 0, 2, 11), 361) := rfl
theorem s211_3 {c : Nat → List AV → SS → Option Out} {l0 l1 l2 : Option AV} {t0 t1 : AV} {j t : Nat} {S : SS} : ev c 211 3 [l0, l1, l2] [] [aR (11, j, t), t0, t1] S = ckH [(0, 8, 12, 2, 1)] 3 (c 212 [aR (11, j, t)] S) (fun v S' => ev c 211 6 [l0, l1, l2] [] (v.toList ++ [t0, t1]) S') (fun a b S' => ev c 211 a ([l0, l1, l2].set b none) [] [] S') := ev_callH rfl (fun E a b h9 => hnd_lt rfl h9) i211_3 rfl
theorem i211_6 : insAt 211 6 = some (.i2l, 1, (0, 0, 0, 0), 0) := rfl
theorem s211_6 {c : Nat → List AV → SS → Option Out} {l0 l1 l2 : Option AV} {x : Int32} {L2 : List (Nat × AV)} {St : List AV} {S : SS} : ev c 211 6 [l0, l1, l2] L2 (aI x :: St) S = ev c 211 7 [l0, l1, l2] L2 (aL x.toInt64 :: St) S := ev_go i211_6 rfl
theorem i211_7 : insAt 211 7 = some (.lastore, 1, (0, 0, 0, 0), 0) := rfl
theorem s211_7 {c : Nat → List AV → SS → Option Out} {l0 l1 l2 : Option AV} {x : Int64} {i : Int32} {o : OId} {L2 : List (Nat × AV)} {St : List AV} {S : SS} : ev c 211 7 [l0, l1, l2] L2 (aL x :: aI i :: aR o :: St) S = kJ o i (ev c 211 8 [l0, l1, l2] L2 St (S.1, setV S.2.1 o i.toNatClampNeg (aL x), S.2.2)) := ev_lastore i211_7
theorem i211_8 : insAt 211 8 = some (.goto 6, 3, (0, 0, 0, 0), 0) := rfl
theorem s211_8 {c : Nat → List AV → SS → Option Out} {l0 l1 l2 : Option AV} {L2 : List (Nat × AV)} {St : List AV} {S : SS} : ev c 211 8 [l0, l1, l2] L2 St S = ev c 211 14 [l0, l1, l2] L2 St S := ev_go i211_8 rfl
theorem i211_12 : insAt 211 12 = some (.iconst 1, 1, (0, 0, 0, 0), 0) := rfl
theorem s211_12 {c : Nat → List AV → SS → Option Out} {l0 l1 l2 : Option AV} {L2 : List (Nat × AV)} {St : List AV} {S : SS} : ev c 211 12 [l0, l1, l2] L2 St S = ev c 211 13 [l0, l1, l2] L2 (aI 1 :: St) S := ev_go i211_12 rfl
theorem i211_13 : insAt 211 13 = some (.ireturn, 1, (0, 0, 0, 0), 0) := rfl
theorem s211_13 {c : Nat → List AV → SS → Option Out} {l0 l1 l2 : Option AV} {x : Int32} {L2 : List (Nat × AV)} {S : SS} : ev c 211 13 [l0, l1, l2] L2 [aI x] S = some (.inl (some (aI x)), S) := ev_end i211_13 rfl
theorem i211_14 : insAt 211 14 = some (.iconst 0, 1, (0, 0, 0, 0), 0) := rfl
theorem s211_14 {c : Nat → List AV → SS → Option Out} {l0 l1 l2 : Option AV} {L2 : List (Nat × AV)} {St : List AV} {S : SS} : ev c 211 14 [l0, l1, l2] L2 St S = ev c 211 15 [l0, l1, l2] L2 (aI 0 :: St) S := ev_go i211_14 rfl
theorem i211_15 : insAt 211 15 = some (.ireturn, 1, (0, 0, 0, 0), 0) := rfl
theorem s211_15 {c : Nat → List AV → SS → Option Out} {l0 l1 l2 : Option AV} {x : Int32} {L2 : List (Nat × AV)} {S : SS} : ev c 211 15 [l0, l1, l2] L2 [aI x] S = some (.inl (some (aI x)), S) := ev_end i211_15 rfl
theorem m211 {d : Nat} {a0 : OId} {a1 : OId} {S : SS} : evm (d + 1) 211 [aR a0, aR a1] S = ev (evm d) 211 0 [some (aR a0), some (aR a1), none] [] [] S := evm_s (n := 3) rfl (Nat.le_of_ble_eq_true rfl) rfl rfl
/-! FrequencyOfficeLaw.law([I)Z -/
theorem i311_0 : insAt 311 0 = some (.new 8, 3, (11, 0, 0, 0), 435) := rfl
theorem i311_3 : insAt 311 3 = some (.dup, 1, (0, 0, 0, 0), 0) := rfl
theorem s311_3 {c : Nat → List AV → SS → Option Out} {l0 l1 l2 l3 l4 l5 l6 l7 : Option AV} {x : OId} {L2 : List (Nat × AV)} {St : List AV} {S : SS} : ev c 311 3 [l0, l1, l2, l3, l4, l5, l6, l7] L2 (aR x :: St) S = ev c 311 4 [l0, l1, l2, l3, l4, l5, l6, l7] L2 (aR x :: aR x :: St) S := ev_go i311_3 rfl
theorem i311_4 : insAt 311 4 = some (.invokespecial 139, 3, (0, 0, 5, 11), 436) := rfl
theorem s311_4 {c : Nat → List AV → SS → Option Out} {l0 l1 l2 l3 l4 l5 l6 l7 : Option AV} {t0 : AV} {j t : Nat} {L2 : List (Nat × AV)} {S : SS} : ev c 311 4 [l0, l1, l2, l3, l4, l5, l6, l7] L2 [aR (11, j, t), t0] S = ck (c 0 [aR (11, j, t)] S) (fun v S' => ev c 311 7 [l0, l1, l2, l3, l4, l5, l6, l7] L2 (v.toList ++ [t0]) S') := ev_call i311_4 rfl
theorem i311_7 : insAt 311 7 = some (.astore_n 1, 1, (0, 0, 0, 0), 0) := rfl
theorem s311_7 {c : Nat → List AV → SS → Option Out} {l0 l1 l2 l3 l4 l5 l6 l7 : Option AV} {o : OId} {L2 : List (Nat × AV)} {St : List AV} {S : SS} : ev c 311 7 [l0, l1, l2, l3, l4, l5, l6, l7] L2 (aR o :: St) S = ev c 311 8 [l0, some (aR o), l2, l3, l4, l5, l6, l7] (kil L2 1) St S := ev_go i311_7 rfl
theorem i311_8 : insAt 311 8 = some (.new 140, 3, (12, 0, 0, 0), 437) := rfl
theorem i311_11 : insAt 311 11 = some (.dup, 1, (0, 0, 0, 0), 0) := rfl
theorem s311_11 {c : Nat → List AV → SS → Option Out} {l0 l1 l2 l3 l4 l5 l6 l7 : Option AV} {x : OId} {L2 : List (Nat × AV)} {St : List AV} {S : SS} : ev c 311 11 [l0, l1, l2, l3, l4, l5, l6, l7] L2 (aR x :: St) S = ev c 311 12 [l0, l1, l2, l3, l4, l5, l6, l7] L2 (aR x :: aR x :: St) S := ev_go i311_11 rfl
theorem i311_12 : insAt 311 12 = some (.invokespecial 142, 3, (214, 0, 5, 12), 438) := rfl
theorem s311_12 {c : Nat → List AV → SS → Option Out} {l0 l1 l2 l3 l4 l5 l6 l7 : Option AV} {t0 : AV} {j t : Nat} {L2 : List (Nat × AV)} {S : SS} : ev c 311 12 [l0, l1, l2, l3, l4, l5, l6, l7] L2 [aR (12, j, t), t0] S = ck (c 214 [aR (12, j, t)] S) (fun v S' => ev c 311 15 [l0, l1, l2, l3, l4, l5, l6, l7] L2 (v.toList ++ [t0]) S') := ev_call i311_12 rfl
theorem i311_15 : insAt 311 15 = some (.astore_n 2, 1, (0, 0, 0, 0), 0) := rfl
theorem s311_15 {c : Nat → List AV → SS → Option Out} {l0 l1 l2 l3 l4 l5 l6 l7 : Option AV} {o : OId} {L2 : List (Nat × AV)} {St : List AV} {S : SS} : ev c 311 15 [l0, l1, l2, l3, l4, l5, l6, l7] L2 (aR o :: St) S = ev c 311 16 [l0, l1, some (aR o), l3, l4, l5, l6, l7] (kil L2 2) St S := ev_go i311_15 rfl
theorem i311_16 : insAt 311 16 = some (.iconst 1, 1, (0, 0, 0, 0), 0) := rfl
theorem s311_16 {c : Nat → List AV → SS → Option Out} {l0 l1 l2 l3 l4 l5 l6 l7 : Option AV} {L2 : List (Nat × AV)} {St : List AV} {S : SS} : ev c 311 16 [l0, l1, l2, l3, l4, l5, l6, l7] L2 St S = ev c 311 17 [l0, l1, l2, l3, l4, l5, l6, l7] L2 (aI 1 :: St) S := ev_go i311_16 rfl
theorem i311_17 : insAt 311 17 = some (.newarray .long, 2, (0, 0, 0, 0), 0) := rfl
theorem i311_19 : insAt 311 19 = some (.astore_n 3, 1, (0, 0, 0, 0), 0) := rfl
theorem s311_19 {c : Nat → List AV → SS → Option Out} {l0 l1 l2 l3 l4 l5 l6 l7 : Option AV} {o : OId} {L2 : List (Nat × AV)} {St : List AV} {S : SS} : ev c 311 19 [l0, l1, l2, l3, l4, l5, l6, l7] L2 (aR o :: St) S = ev c 311 20 [l0, l1, l2, some (aR o), l4, l5, l6, l7] (kil L2 3) St S := ev_go i311_19 rfl
theorem i311_20 : insAt 311 20 = some (.iconst 1, 1, (0, 0, 0, 0), 0) := rfl
theorem s311_20 {c : Nat → List AV → SS → Option Out} {l0 l1 l2 l3 l4 l5 l6 l7 : Option AV} {L2 : List (Nat × AV)} {St : List AV} {S : SS} : ev c 311 20 [l0, l1, l2, l3, l4, l5, l6, l7] L2 St S = ev c 311 21 [l0, l1, l2, l3, l4, l5, l6, l7] L2 (aI 1 :: St) S := ev_go i311_20 rfl
theorem i311_21 : insAt 311 21 = some (.newarray .double, 2, (0, 0, 0, 0), 0) := rfl
theorem i311_23 : insAt 311 23 = some (.astore 4, 2, (0, 0, 0, 0), 0) := rfl
theorem s311_23 {c : Nat → List AV → SS → Option Out} {l0 l1 l2 l3 l4 l5 l6 l7 : Option AV} {o : OId} {L2 : List (Nat × AV)} {St : List AV} {S : SS} : ev c 311 23 [l0, l1, l2, l3, l4, l5, l6, l7] L2 (aR o :: St) S = ev c 311 25 [l0, l1, l2, l3, some (aR o), l5, l6, l7] (kil L2 4) St S := ev_go i311_23 rfl
theorem i311_25 : insAt 311 25 = some (.iconst 0, 1, (0, 0, 0, 0), 0) := rfl
theorem s311_25 {c : Nat → List AV → SS → Option Out} {l0 l1 l2 l3 l4 l5 l6 l7 : Option AV} {L2 : List (Nat × AV)} {St : List AV} {S : SS} : ev c 311 25 [l0, l1, l2, l3, l4, l5, l6, l7] L2 St S = ev c 311 26 [l0, l1, l2, l3, l4, l5, l6, l7] L2 (aI 0 :: St) S := ev_go i311_25 rfl
theorem i311_26 : insAt 311 26 = some (.istore 5, 2, (0, 0, 0, 0), 0) := rfl
theorem s311_26 {c : Nat → List AV → SS → Option Out} {l0 l1 l2 l3 l4 l5 l6 l7 : Option AV} {x : Int32} {L2 : List (Nat × AV)} {St : List AV} {S : SS} : ev c 311 26 [l0, l1, l2, l3, l4, l5, l6, l7] L2 (aI x :: St) S = ev c 311 28 [l0, l1, l2, l3, l4, some (aI x), l6, l7] (kil L2 5) St S := ev_go i311_26 rfl
theorem i311_28 : insAt 311 28 = some (.iload 5, 2, (0, 0, 0, 0), 0) := rfl
theorem s311_28 {c : Nat → List AV → SS → Option Out} {l0 l1 l2 l3 l4 l6 l7 : Option AV} {x : Int32} {L2 : List (Nat × AV)} {St : List AV} {S : SS} : ev c 311 28 [l0, l1, l2, l3, l4, some (aI x), l6, l7] L2 St S = ev c 311 30 [l0, l1, l2, l3, l4, some (aI x), l6, l7] L2 (aI x :: St) S := ev_go i311_28 rfl
theorem i311_30 : insAt 311 30 = some (.aload_n 0, 1, (0, 0, 0, 0), 0) := rfl
theorem s311_30 {c : Nat → List AV → SS → Option Out} {l1 l2 l3 l4 l5 l6 l7 : Option AV} {o : OId} {L2 : List (Nat × AV)} {St : List AV} {S : SS} : ev c 311 30 [some (aR o), l1, l2, l3, l4, l5, l6, l7] L2 St S = ev c 311 31 [some (aR o), l1, l2, l3, l4, l5, l6, l7] L2 (aR o :: St) S := ev_go i311_30 rfl
theorem i311_31 : insAt 311 31 = some (.arraylength, 1, (0, 0, 0, 0), 0) := rfl
theorem s311_31 {c : Nat → List AV → SS → Option Out} {l0 l1 l2 l3 l4 l5 l6 l7 : Option AV} {o : OId} {L2 : List (Nat × AV)} {St : List AV} {S : SS} : ev c 311 31 [l0, l1, l2, l3, l4, l5, l6, l7] L2 (aR o :: St) S = kN o (fun x => ev c 311 32 [l0, l1, l2, l3, l4, l5, l6, l7] L2 (aI x :: St) S) := ev_alen i311_31
theorem i311_32 : insAt 311 32 = some (.iconst 4, 1, (0, 0, 0, 0), 0) := rfl
theorem s311_32 {c : Nat → List AV → SS → Option Out} {l0 l1 l2 l3 l4 l5 l6 l7 : Option AV} {L2 : List (Nat × AV)} {St : List AV} {S : SS} : ev c 311 32 [l0, l1, l2, l3, l4, l5, l6, l7] L2 St S = ev c 311 33 [l0, l1, l2, l3, l4, l5, l6, l7] L2 (aI 4 :: St) S := ev_go i311_32 rfl
theorem i311_33 : insAt 311 33 = some (.isub, 1, (0, 0, 0, 0), 0) := rfl
theorem s311_33 {c : Nat → List AV → SS → Option Out} {l0 l1 l2 l3 l4 l5 l6 l7 : Option AV} {x y : Int32} {L2 : List (Nat × AV)} {St : List AV} {S : SS} : ev c 311 33 [l0, l1, l2, l3, l4, l5, l6, l7] L2 (aI y :: aI x :: St) S = ev c 311 34 [l0, l1, l2, l3, l4, l5, l6, l7] L2 (aI (x - y) :: St) S := ev_go i311_33 rfl
theorem i311_34 : insAt 311 34 = some (.if_icmp .gt 2771, 3, (0, 0, 0, 0), 0) := rfl
theorem s311_34 {c : Nat → List AV → SS → Option Out} {l0 l1 l2 l3 l4 l5 l6 l7 : Option AV} {x y : Int32} {L2 : List (Nat × AV)} {St : List AV} {S : SS} : ev c 311 34 [l0, l1, l2, l3, l4, l5, l6, l7] L2 (aI y :: aI x :: St) S = if y < x then ev c 311 2805 [l0, l1, l2, l3, l4, l5, l6, l7] L2 St S else ev c 311 37 [l0, l1, l2, l3, l4, l5, l6, l7] L2 St S := ev_br i311_34 rfl
theorem i311_37 : insAt 311 37 = some (.aload_n 0, 1, (0, 0, 0, 0), 0) := rfl
theorem s311_37 {c : Nat → List AV → SS → Option Out} {l1 l2 l3 l4 l5 l6 l7 : Option AV} {o : OId} {L2 : List (Nat × AV)} {St : List AV} {S : SS} : ev c 311 37 [some (aR o), l1, l2, l3, l4, l5, l6, l7] L2 St S = ev c 311 38 [some (aR o), l1, l2, l3, l4, l5, l6, l7] L2 (aR o :: St) S := ev_go i311_37 rfl
theorem i311_38 : insAt 311 38 = some (.iload 5, 2, (0, 0, 0, 0), 0) := rfl
theorem s311_38 {c : Nat → List AV → SS → Option Out} {l0 l1 l2 l3 l4 l6 l7 : Option AV} {x : Int32} {L2 : List (Nat × AV)} {St : List AV} {S : SS} : ev c 311 38 [l0, l1, l2, l3, l4, some (aI x), l6, l7] L2 St S = ev c 311 40 [l0, l1, l2, l3, l4, some (aI x), l6, l7] L2 (aI x :: St) S := ev_go i311_38 rfl
theorem i311_40 : insAt 311 40 = some (.iaload, 1, (0, 0, 0, 0), 0) := rfl
theorem s311_40 {c : Nat → List AV → SS → Option Out} {l0 l1 l2 l3 l4 l5 l6 l7 : Option AV} {i : Int32} {o : OId} {L2 : List (Nat × AV)} {St : List AV} {S : SS} : ev c 311 40 [l0, l1, l2, l3, l4, l5, l6, l7] L2 (aI i :: aR o :: St) S = kI o i (ev c 311 41 [l0, l1, l2, l3, l4, l5, l6, l7] L2 (aI (agI S o i.toNatClampNeg) :: St) S) := ev_iaload i311_40
theorem i311_41 : insAt 311 41 = some (.bipush 63, 2, (0, 0, 0, 0), 0) := rfl
theorem s311_41 {c : Nat → List AV → SS → Option Out} {l0 l1 l2 l3 l4 l5 l6 l7 : Option AV} {L2 : List (Nat × AV)} {St : List AV} {S : SS} : ev c 311 41 [l0, l1, l2, l3, l4, l5, l6, l7] L2 St S = ev c 311 43 [l0, l1, l2, l3, l4, l5, l6, l7] L2 (aI 63 :: St) S := ev_go i311_41 rfl
theorem i311_43 : insAt 311 43 = some (.iand, 1, (0, 0, 0, 0), 0) := rfl
theorem s311_43 {c : Nat → List AV → SS → Option Out} {l0 l1 l2 l3 l4 l5 l6 l7 : Option AV} {x y : Int32} {L2 : List (Nat × AV)} {St : List AV} {S : SS} : ev c 311 43 [l0, l1, l2, l3, l4, l5, l6, l7] L2 (aI y :: aI x :: St) S = ev c 311 44 [l0, l1, l2, l3, l4, l5, l6, l7] L2 (aI (x &&& y) :: St) S := ev_go i311_43 rfl
theorem i311_44 : insAt 311 44 = some (.tableswitch 2755 0 50 #[220, 300, 313, 326, 339, 419, 499, 567, 635, 691, 747, 760, 773, 786, 811, 867, 923, 979, 1035, 1091, 1147, 1210, 1223, 1236, 1304, 1372, 1440, 1508, 1576, 1656, 1736, 1802, 1815, 1883, 1951, 2019, 2087, 2155, 2223, 2291, 2335, 2391, 2447, 2503, 2516, 2529, 2542, 2598, 2654, 2698, 2711], 220, (0, 0, 0, 0), 0) := rfl
theorem i311_264 : insAt 311 264 = some (.aload_n 1, 1, (0, 0, 0, 0), 0) := rfl
theorem s311_264 {c : Nat → List AV → SS → Option Out} {l0 l2 l3 l4 l5 l6 l7 : Option AV} {o : OId} {L2 : List (Nat × AV)} {St : List AV} {S : SS} : ev c 311 264 [l0, some (aR o), l2, l3, l4, l5, l6, l7] L2 St S = ev c 311 265 [l0, some (aR o), l2, l3, l4, l5, l6, l7] L2 (aR o :: St) S := ev_go i311_264 rfl
theorem i311_265 : insAt 311 265 = some (.aload_n 0, 1, (0, 0, 0, 0), 0) := rfl
theorem s311_265 {c : Nat → List AV → SS → Option Out} {l1 l2 l3 l4 l5 l6 l7 : Option AV} {o : OId} {L2 : List (Nat × AV)} {St : List AV} {S : SS} : ev c 311 265 [some (aR o), l1, l2, l3, l4, l5, l6, l7] L2 St S = ev c 311 266 [some (aR o), l1, l2, l3, l4, l5, l6, l7] L2 (aR o :: St) S := ev_go i311_265 rfl
theorem i311_266 : insAt 311 266 = some (.iload 5, 2, (0, 0, 0, 0), 0) := rfl
theorem s311_266 {c : Nat → List AV → SS → Option Out} {l0 l1 l2 l3 l4 l6 l7 : Option AV} {x : Int32} {L2 : List (Nat × AV)} {St : List AV} {S : SS} : ev c 311 266 [l0, l1, l2, l3, l4, some (aI x), l6, l7] L2 St S = ev c 311 268 [l0, l1, l2, l3, l4, some (aI x), l6, l7] L2 (aI x :: St) S := ev_go i311_266 rfl
theorem i311_268 : insAt 311 268 = some (.iconst 1, 1, (0, 0, 0, 0), 0) := rfl
theorem s311_268 {c : Nat → List AV → SS → Option Out} {l0 l1 l2 l3 l4 l5 l6 l7 : Option AV} {L2 : List (Nat × AV)} {St : List AV} {S : SS} : ev c 311 268 [l0, l1, l2, l3, l4, l5, l6, l7] L2 St S = ev c 311 269 [l0, l1, l2, l3, l4, l5, l6, l7] L2 (aI 1 :: St) S := ev_go i311_268 rfl
theorem i311_269 : insAt 311 269 = some (.iadd, 1, (0, 0, 0, 0), 0) := rfl
theorem s311_269 {c : Nat → List AV → SS → Option Out} {l0 l1 l2 l3 l4 l5 l6 l7 : Option AV} {x y : Int32} {L2 : List (Nat × AV)} {St : List AV} {S : SS} : ev c 311 269 [l0, l1, l2, l3, l4, l5, l6, l7] L2 (aI y :: aI x :: St) S = ev c 311 270 [l0, l1, l2, l3, l4, l5, l6, l7] L2 (aI (x + y) :: St) S := ev_go i311_269 rfl
theorem i311_270 : insAt 311 270 = some (.iaload, 1, (0, 0, 0, 0), 0) := rfl
theorem s311_270 {c : Nat → List AV → SS → Option Out} {l0 l1 l2 l3 l4 l5 l6 l7 : Option AV} {i : Int32} {o : OId} {L2 : List (Nat × AV)} {St : List AV} {S : SS} : ev c 311 270 [l0, l1, l2, l3, l4, l5, l6, l7] L2 (aI i :: aR o :: St) S = kI o i (ev c 311 271 [l0, l1, l2, l3, l4, l5, l6, l7] L2 (aI (agI S o i.toNatClampNeg) :: St) S) := ev_iaload i311_270
theorem i311_271 : insAt 311 271 = some (.aload_n 0, 1, (0, 0, 0, 0), 0) := rfl
theorem s311_271 {c : Nat → List AV → SS → Option Out} {l1 l2 l3 l4 l5 l6 l7 : Option AV} {o : OId} {L2 : List (Nat × AV)} {St : List AV} {S : SS} : ev c 311 271 [some (aR o), l1, l2, l3, l4, l5, l6, l7] L2 St S = ev c 311 272 [some (aR o), l1, l2, l3, l4, l5, l6, l7] L2 (aR o :: St) S := ev_go i311_271 rfl
theorem i311_272 : insAt 311 272 = some (.iload 5, 2, (0, 0, 0, 0), 0) := rfl
theorem s311_272 {c : Nat → List AV → SS → Option Out} {l0 l1 l2 l3 l4 l6 l7 : Option AV} {x : Int32} {L2 : List (Nat × AV)} {St : List AV} {S : SS} : ev c 311 272 [l0, l1, l2, l3, l4, some (aI x), l6, l7] L2 St S = ev c 311 274 [l0, l1, l2, l3, l4, some (aI x), l6, l7] L2 (aI x :: St) S := ev_go i311_272 rfl
theorem i311_274 : insAt 311 274 = some (.iconst 2, 1, (0, 0, 0, 0), 0) := rfl
theorem s311_274 {c : Nat → List AV → SS → Option Out} {l0 l1 l2 l3 l4 l5 l6 l7 : Option AV} {L2 : List (Nat × AV)} {St : List AV} {S : SS} : ev c 311 274 [l0, l1, l2, l3, l4, l5, l6, l7] L2 St S = ev c 311 275 [l0, l1, l2, l3, l4, l5, l6, l7] L2 (aI 2 :: St) S := ev_go i311_274 rfl
theorem i311_275 : insAt 311 275 = some (.iadd, 1, (0, 0, 0, 0), 0) := rfl
theorem s311_275 {c : Nat → List AV → SS → Option Out} {l0 l1 l2 l3 l4 l5 l6 l7 : Option AV} {x y : Int32} {L2 : List (Nat × AV)} {St : List AV} {S : SS} : ev c 311 275 [l0, l1, l2, l3, l4, l5, l6, l7] L2 (aI y :: aI x :: St) S = ev c 311 276 [l0, l1, l2, l3, l4, l5, l6, l7] L2 (aI (x + y) :: St) S := ev_go i311_275 rfl
theorem i311_276 : insAt 311 276 = some (.iaload, 1, (0, 0, 0, 0), 0) := rfl
theorem s311_276 {c : Nat → List AV → SS → Option Out} {l0 l1 l2 l3 l4 l5 l6 l7 : Option AV} {i : Int32} {o : OId} {L2 : List (Nat × AV)} {St : List AV} {S : SS} : ev c 311 276 [l0, l1, l2, l3, l4, l5, l6, l7] L2 (aI i :: aR o :: St) S = kI o i (ev c 311 277 [l0, l1, l2, l3, l4, l5, l6, l7] L2 (aI (agI S o i.toNatClampNeg) :: St) S) := ev_iaload i311_276
theorem i311_277 : insAt 311 277 = some (.aload_n 0, 1, (0, 0, 0, 0), 0) := rfl
theorem s311_277 {c : Nat → List AV → SS → Option Out} {l1 l2 l3 l4 l5 l6 l7 : Option AV} {o : OId} {L2 : List (Nat × AV)} {St : List AV} {S : SS} : ev c 311 277 [some (aR o), l1, l2, l3, l4, l5, l6, l7] L2 St S = ev c 311 278 [some (aR o), l1, l2, l3, l4, l5, l6, l7] L2 (aR o :: St) S := ev_go i311_277 rfl
theorem i311_278 : insAt 311 278 = some (.iload 5, 2, (0, 0, 0, 0), 0) := rfl
theorem s311_278 {c : Nat → List AV → SS → Option Out} {l0 l1 l2 l3 l4 l6 l7 : Option AV} {x : Int32} {L2 : List (Nat × AV)} {St : List AV} {S : SS} : ev c 311 278 [l0, l1, l2, l3, l4, some (aI x), l6, l7] L2 St S = ev c 311 280 [l0, l1, l2, l3, l4, some (aI x), l6, l7] L2 (aI x :: St) S := ev_go i311_278 rfl
theorem i311_280 : insAt 311 280 = some (.iconst 3, 1, (0, 0, 0, 0), 0) := rfl
theorem s311_280 {c : Nat → List AV → SS → Option Out} {l0 l1 l2 l3 l4 l5 l6 l7 : Option AV} {L2 : List (Nat × AV)} {St : List AV} {S : SS} : ev c 311 280 [l0, l1, l2, l3, l4, l5, l6, l7] L2 St S = ev c 311 281 [l0, l1, l2, l3, l4, l5, l6, l7] L2 (aI 3 :: St) S := ev_go i311_280 rfl
theorem i311_281 : insAt 311 281 = some (.iadd, 1, (0, 0, 0, 0), 0) := rfl
theorem s311_281 {c : Nat → List AV → SS → Option Out} {l0 l1 l2 l3 l4 l5 l6 l7 : Option AV} {x y : Int32} {L2 : List (Nat × AV)} {St : List AV} {S : SS} : ev c 311 281 [l0, l1, l2, l3, l4, l5, l6, l7] L2 (aI y :: aI x :: St) S = ev c 311 282 [l0, l1, l2, l3, l4, l5, l6, l7] L2 (aI (x + y) :: St) S := ev_go i311_281 rfl
theorem i311_282 : insAt 311 282 = some (.iaload, 1, (0, 0, 0, 0), 0) := rfl
theorem s311_282 {c : Nat → List AV → SS → Option Out} {l0 l1 l2 l3 l4 l5 l6 l7 : Option AV} {i : Int32} {o : OId} {L2 : List (Nat × AV)} {St : List AV} {S : SS} : ev c 311 282 [l0, l1, l2, l3, l4, l5, l6, l7] L2 (aI i :: aR o :: St) S = kI o i (ev c 311 283 [l0, l1, l2, l3, l4, l5, l6, l7] L2 (aI (agI S o i.toNatClampNeg) :: St) S) := ev_iaload i311_282
theorem i311_283 : insAt 311 283 = some (.aload_n 3, 1, (0, 0, 0, 0), 0) := rfl
theorem s311_283 {c : Nat → List AV → SS → Option Out} {l0 l1 l2 l4 l5 l6 l7 : Option AV} {o : OId} {L2 : List (Nat × AV)} {St : List AV} {S : SS} : ev c 311 283 [l0, l1, l2, some (aR o), l4, l5, l6, l7] L2 St S = ev c 311 284 [l0, l1, l2, some (aR o), l4, l5, l6, l7] L2 (aR o :: St) S := ev_go i311_283 rfl
theorem i311_284 : insAt 311 284 = some (.invokestatic 143, 3, (56, 5, 0, 0), 439) := rfl
theorem s311_284 {c : Nat → List AV → SS → Option Out} {l0 l1 l2 l3 l4 l5 l6 l7 : Option AV} {a0 : OId} {a1 : Int32} {a2 : Int32} {a3 : Int32} {a4 : OId} {L2 : List (Nat × AV)} {S : SS} : ev c 311 284 [l0, l1, l2, l3, l4, l5, l6, l7] L2 [aR a4, aI a3, aI a2, aI a1, aR a0] S = ck (c 56 [aR a0, aI a1, aI a2, aI a3, aR a4] S) (fun v S' => ev c 311 287 [l0, l1, l2, l3, l4, l5, l6, l7] L2 (v.toList ++ []) S') := ev_call i311_284 rfl
theorem i311_287 : insAt 311 287 = some (.istore 6, 2, (0, 0, 0, 0), 0) := rfl
theorem s311_287 {c : Nat → List AV → SS → Option Out} {l0 l1 l2 l3 l4 l5 l6 l7 : Option AV} {x : Int32} {L2 : List (Nat × AV)} {St : List AV} {S : SS} : ev c 311 287 [l0, l1, l2, l3, l4, l5, l6, l7] L2 (aI x :: St) S = ev c 311 289 [l0, l1, l2, l3, l4, l5, some (aI x), l7] (kil L2 6) St S := ev_go i311_287 rfl
theorem i311_289 : insAt 311 289 = some (.aload_n 2, 1, (0, 0, 0, 0), 0) := rfl
theorem s311_289 {c : Nat → List AV → SS → Option Out} {l0 l1 l3 l4 l5 l6 l7 : Option AV} {o : OId} {L2 : List (Nat × AV)} {St : List AV} {S : SS} : ev c 311 289 [l0, l1, some (aR o), l3, l4, l5, l6, l7] L2 St S = ev c 311 290 [l0, l1, some (aR o), l3, l4, l5, l6, l7] L2 (aR o :: St) S := ev_go i311_289 rfl
theorem i311_290 : insAt 311 290 = some (.aload_n 0, 1, (0, 0, 0, 0), 0) := rfl
theorem s311_290 {c : Nat → List AV → SS → Option Out} {l1 l2 l3 l4 l5 l6 l7 : Option AV} {o : OId} {L2 : List (Nat × AV)} {St : List AV} {S : SS} : ev c 311 290 [some (aR o), l1, l2, l3, l4, l5, l6, l7] L2 St S = ev c 311 291 [some (aR o), l1, l2, l3, l4, l5, l6, l7] L2 (aR o :: St) S := ev_go i311_290 rfl
theorem i311_291 : insAt 311 291 = some (.iload 5, 2, (0, 0, 0, 0), 0) := rfl
theorem s311_291 {c : Nat → List AV → SS → Option Out} {l0 l1 l2 l3 l4 l6 l7 : Option AV} {x : Int32} {L2 : List (Nat × AV)} {St : List AV} {S : SS} : ev c 311 291 [l0, l1, l2, l3, l4, some (aI x), l6, l7] L2 St S = ev c 311 293 [l0, l1, l2, l3, l4, some (aI x), l6, l7] L2 (aI x :: St) S := ev_go i311_291 rfl
theorem i311_293 : insAt 311 293 = some (.iconst 1, 1, (0, 0, 0, 0), 0) := rfl
theorem s311_293 {c : Nat → List AV → SS → Option Out} {l0 l1 l2 l3 l4 l5 l6 l7 : Option AV} {L2 : List (Nat × AV)} {St : List AV} {S : SS} : ev c 311 293 [l0, l1, l2, l3, l4, l5, l6, l7] L2 St S = ev c 311 294 [l0, l1, l2, l3, l4, l5, l6, l7] L2 (aI 1 :: St) S := ev_go i311_293 rfl
theorem i311_294 : insAt 311 294 = some (.iadd, 1, (0, 0, 0, 0), 0) := rfl
theorem s311_294 {c : Nat → List AV → SS → Option Out} {l0 l1 l2 l3 l4 l5 l6 l7 : Option AV} {x y : Int32} {L2 : List (Nat × AV)} {St : List AV} {S : SS} : ev c 311 294 [l0, l1, l2, l3, l4, l5, l6, l7] L2 (aI y :: aI x :: St) S = ev c 311 295 [l0, l1, l2, l3, l4, l5, l6, l7] L2 (aI (x + y) :: St) S := ev_go i311_294 rfl
theorem i311_295 : insAt 311 295 = some (.iaload, 1, (0, 0, 0, 0), 0) := rfl
theorem s311_295 {c : Nat → List AV → SS → Option Out} {l0 l1 l2 l3 l4 l5 l6 l7 : Option AV} {i : Int32} {o : OId} {L2 : List (Nat × AV)} {St : List AV} {S : SS} : ev c 311 295 [l0, l1, l2, l3, l4, l5, l6, l7] L2 (aI i :: aR o :: St) S = kI o i (ev c 311 296 [l0, l1, l2, l3, l4, l5, l6, l7] L2 (aI (agI S o i.toNatClampNeg) :: St) S) := ev_iaload i311_295
theorem i311_296 : insAt 311 296 = some (.aload_n 0, 1, (0, 0, 0, 0), 0) := rfl
theorem s311_296 {c : Nat → List AV → SS → Option Out} {l1 l2 l3 l4 l5 l6 l7 : Option AV} {o : OId} {L2 : List (Nat × AV)} {St : List AV} {S : SS} : ev c 311 296 [some (aR o), l1, l2, l3, l4, l5, l6, l7] L2 St S = ev c 311 297 [some (aR o), l1, l2, l3, l4, l5, l6, l7] L2 (aR o :: St) S := ev_go i311_296 rfl
theorem i311_297 : insAt 311 297 = some (.iload 5, 2, (0, 0, 0, 0), 0) := rfl
theorem s311_297 {c : Nat → List AV → SS → Option Out} {l0 l1 l2 l3 l4 l6 l7 : Option AV} {x : Int32} {L2 : List (Nat × AV)} {St : List AV} {S : SS} : ev c 311 297 [l0, l1, l2, l3, l4, some (aI x), l6, l7] L2 St S = ev c 311 299 [l0, l1, l2, l3, l4, some (aI x), l6, l7] L2 (aI x :: St) S := ev_go i311_297 rfl
theorem i311_299 : insAt 311 299 = some (.iconst 2, 1, (0, 0, 0, 0), 0) := rfl
theorem s311_299 {c : Nat → List AV → SS → Option Out} {l0 l1 l2 l3 l4 l5 l6 l7 : Option AV} {L2 : List (Nat × AV)} {St : List AV} {S : SS} : ev c 311 299 [l0, l1, l2, l3, l4, l5, l6, l7] L2 St S = ev c 311 300 [l0, l1, l2, l3, l4, l5, l6, l7] L2 (aI 2 :: St) S := ev_go i311_299 rfl
theorem i311_300 : insAt 311 300 = some (.iadd, 1, (0, 0, 0, 0), 0) := rfl
theorem s311_300 {c : Nat → List AV → SS → Option Out} {l0 l1 l2 l3 l4 l5 l6 l7 : Option AV} {x y : Int32} {L2 : List (Nat × AV)} {St : List AV} {S : SS} : ev c 311 300 [l0, l1, l2, l3, l4, l5, l6, l7] L2 (aI y :: aI x :: St) S = ev c 311 301 [l0, l1, l2, l3, l4, l5, l6, l7] L2 (aI (x + y) :: St) S := ev_go i311_300 rfl
theorem i311_301 : insAt 311 301 = some (.iaload, 1, (0, 0, 0, 0), 0) := rfl
theorem s311_301 {c : Nat → List AV → SS → Option Out} {l0 l1 l2 l3 l4 l5 l6 l7 : Option AV} {i : Int32} {o : OId} {L2 : List (Nat × AV)} {St : List AV} {S : SS} : ev c 311 301 [l0, l1, l2, l3, l4, l5, l6, l7] L2 (aI i :: aR o :: St) S = kI o i (ev c 311 302 [l0, l1, l2, l3, l4, l5, l6, l7] L2 (aI (agI S o i.toNatClampNeg) :: St) S) := ev_iaload i311_301
theorem i311_302 : insAt 311 302 = some (.aload_n 0, 1, (0, 0, 0, 0), 0) := rfl
theorem s311_302 {c : Nat → List AV → SS → Option Out} {l1 l2 l3 l4 l5 l6 l7 : Option AV} {o : OId} {L2 : List (Nat × AV)} {St : List AV} {S : SS} : ev c 311 302 [some (aR o), l1, l2, l3, l4, l5, l6, l7] L2 St S = ev c 311 303 [some (aR o), l1, l2, l3, l4, l5, l6, l7] L2 (aR o :: St) S := ev_go i311_302 rfl
theorem i311_303 : insAt 311 303 = some (.iload 5, 2, (0, 0, 0, 0), 0) := rfl
theorem s311_303 {c : Nat → List AV → SS → Option Out} {l0 l1 l2 l3 l4 l6 l7 : Option AV} {x : Int32} {L2 : List (Nat × AV)} {St : List AV} {S : SS} : ev c 311 303 [l0, l1, l2, l3, l4, some (aI x), l6, l7] L2 St S = ev c 311 305 [l0, l1, l2, l3, l4, some (aI x), l6, l7] L2 (aI x :: St) S := ev_go i311_303 rfl
theorem i311_305 : insAt 311 305 = some (.iconst 3, 1, (0, 0, 0, 0), 0) := rfl
theorem s311_305 {c : Nat → List AV → SS → Option Out} {l0 l1 l2 l3 l4 l5 l6 l7 : Option AV} {L2 : List (Nat × AV)} {St : List AV} {S : SS} : ev c 311 305 [l0, l1, l2, l3, l4, l5, l6, l7] L2 St S = ev c 311 306 [l0, l1, l2, l3, l4, l5, l6, l7] L2 (aI 3 :: St) S := ev_go i311_305 rfl
theorem i311_306 : insAt 311 306 = some (.iadd, 1, (0, 0, 0, 0), 0) := rfl
theorem s311_306 {c : Nat → List AV → SS → Option Out} {l0 l1 l2 l3 l4 l5 l6 l7 : Option AV} {x y : Int32} {L2 : List (Nat × AV)} {St : List AV} {S : SS} : ev c 311 306 [l0, l1, l2, l3, l4, l5, l6, l7] L2 (aI y :: aI x :: St) S = ev c 311 307 [l0, l1, l2, l3, l4, l5, l6, l7] L2 (aI (x + y) :: St) S := ev_go i311_306 rfl
theorem i311_307 : insAt 311 307 = some (.iaload, 1, (0, 0, 0, 0), 0) := rfl
theorem s311_307 {c : Nat → List AV → SS → Option Out} {l0 l1 l2 l3 l4 l5 l6 l7 : Option AV} {i : Int32} {o : OId} {L2 : List (Nat × AV)} {St : List AV} {S : SS} : ev c 311 307 [l0, l1, l2, l3, l4, l5, l6, l7] L2 (aI i :: aR o :: St) S = kI o i (ev c 311 308 [l0, l1, l2, l3, l4, l5, l6, l7] L2 (aI (agI S o i.toNatClampNeg) :: St) S) := ev_iaload i311_307
theorem i311_308 : insAt 311 308 = some (.invokevirtual 148, 3, (216, 3, 2, 12), 440) := rfl
theorem s311_308 {c : Nat → List AV → SS → Option Out} {l0 l1 l2 l3 l4 l5 l6 l7 : Option AV} {a0 : Int32} {a1 : Int32} {a2 : Int32} {j t : Nat} {L2 : List (Nat × AV)} {S : SS} : ev c 311 308 [l0, l1, l2, l3, l4, l5, l6, l7] L2 [aI a2, aI a1, aI a0, aR (12, j, t)] S = ck (c 216 [aR (12, j, t), aI a0, aI a1, aI a2] S) (fun v S' => ev c 311 311 [l0, l1, l2, l3, l4, l5, l6, l7] L2 (v.toList ++ []) S') := ev_call i311_308 rfl
theorem i311_311 : insAt 311 311 = some (.istore 7, 2, (0, 0, 0, 0), 0) := rfl
theorem s311_311 {c : Nat → List AV → SS → Option Out} {l0 l1 l2 l3 l4 l5 l6 l7 : Option AV} {x : Int32} {L2 : List (Nat × AV)} {St : List AV} {S : SS} : ev c 311 311 [l0, l1, l2, l3, l4, l5, l6, l7] L2 (aI x :: St) S = ev c 311 313 [l0, l1, l2, l3, l4, l5, l6, some (aI x)] (kil L2 7) St S := ev_go i311_311 rfl
theorem i311_313 : insAt 311 313 = some (.aload_n 2, 1, (0, 0, 0, 0), 0) := rfl
theorem s311_313 {c : Nat → List AV → SS → Option Out} {l0 l1 l3 l4 l5 l6 l7 : Option AV} {o : OId} {L2 : List (Nat × AV)} {St : List AV} {S : SS} : ev c 311 313 [l0, l1, some (aR o), l3, l4, l5, l6, l7] L2 St S = ev c 311 314 [l0, l1, some (aR o), l3, l4, l5, l6, l7] L2 (aR o :: St) S := ev_go i311_313 rfl
theorem i311_314 : insAt 311 314 = some (.invokevirtual 149, 3, (215, 0, 2, 12), 441) := rfl
theorem s311_314 {c : Nat → List AV → SS → Option Out} {l0 l1 l2 l3 l4 l5 l6 l7 : Option AV} {j t : Nat} {L2 : List (Nat × AV)} {S : SS} : ev c 311 314 [l0, l1, l2, l3, l4, l5, l6, l7] L2 [aR (12, j, t)] S = ck (c 215 [aR (12, j, t)] S) (fun v S' => ev c 311 317 [l0, l1, l2, l3, l4, l5, l6, l7] L2 (v.toList ++ []) S') := ev_call i311_314 rfl
theorem i311_317 : insAt 311 317 = some (.iload 6, 2, (0, 0, 0, 0), 0) := rfl
theorem s311_317 {c : Nat → List AV → SS → Option Out} {l0 l1 l2 l3 l4 l5 l7 : Option AV} {x : Int32} {L2 : List (Nat × AV)} {St : List AV} {S : SS} : ev c 311 317 [l0, l1, l2, l3, l4, l5, some (aI x), l7] L2 St S = ev c 311 319 [l0, l1, l2, l3, l4, l5, some (aI x), l7] L2 (aI x :: St) S := ev_go i311_317 rfl
theorem i311_319 : insAt 311 319 = some (.if_icmp .eq 5, 3, (0, 0, 0, 0), 0) := rfl
theorem s311_319 {c : Nat → List AV → SS → Option Out} {l0 l1 l2 l3 l4 l5 l6 l7 : Option AV} {x y : Int32} {L2 : List (Nat × AV)} {St : List AV} {S : SS} : ev c 311 319 [l0, l1, l2, l3, l4, l5, l6, l7] L2 (aI y :: aI x :: St) S = if x = y then ev c 311 324 [l0, l1, l2, l3, l4, l5, l6, l7] L2 St S else ev c 311 322 [l0, l1, l2, l3, l4, l5, l6, l7] L2 St S := ev_br i311_319 rfl
theorem i311_322 : insAt 311 322 = some (.iconst 0, 1, (0, 0, 0, 0), 0) := rfl
theorem s311_322 {c : Nat → List AV → SS → Option Out} {l0 l1 l2 l3 l4 l5 l6 l7 : Option AV} {L2 : List (Nat × AV)} {St : List AV} {S : SS} : ev c 311 322 [l0, l1, l2, l3, l4, l5, l6, l7] L2 St S = ev c 311 323 [l0, l1, l2, l3, l4, l5, l6, l7] L2 (aI 0 :: St) S := ev_go i311_322 rfl
theorem i311_323 : insAt 311 323 = some (.ireturn, 1, (0, 0, 0, 0), 0) := rfl
theorem s311_323 {c : Nat → List AV → SS → Option Out} {l0 l1 l2 l3 l4 l5 l6 l7 : Option AV} {x : Int32} {L2 : List (Nat × AV)} {S : SS} : ev c 311 323 [l0, l1, l2, l3, l4, l5, l6, l7] L2 [aI x] S = if x = 0 ∨ x = 1 then some (.inl (some (aI x)), S) else none := ev_rt i311_323 rfl
theorem i311_324 : insAt 311 324 = some (.iload 6, 2, (0, 0, 0, 0), 0) := rfl
theorem s311_324 {c : Nat → List AV → SS → Option Out} {l0 l1 l2 l3 l4 l5 l7 : Option AV} {x : Int32} {L2 : List (Nat × AV)} {St : List AV} {S : SS} : ev c 311 324 [l0, l1, l2, l3, l4, l5, some (aI x), l7] L2 St S = ev c 311 326 [l0, l1, l2, l3, l4, l5, some (aI x), l7] L2 (aI x :: St) S := ev_go i311_324 rfl
theorem i311_326 : insAt 311 326 = some (.ifCond .ne 15, 3, (0, 0, 0, 0), 0) := rfl
theorem s311_326 {c : Nat → List AV → SS → Option Out} {l0 l1 l2 l3 l4 l5 l6 l7 : Option AV} {x : Int32} {L2 : List (Nat × AV)} {St : List AV} {S : SS} : ev c 311 326 [l0, l1, l2, l3, l4, l5, l6, l7] L2 (aI x :: St) S = if x = 0 then ev c 311 329 [l0, l1, l2, l3, l4, l5, l6, l7] L2 St S else ev c 311 341 [l0, l1, l2, l3, l4, l5, l6, l7] L2 St S := (ev_br i311_326 rfl).trans (ite_not _ _ _)
theorem i311_329 : insAt 311 329 = some (.aload_n 3, 1, (0, 0, 0, 0), 0) := rfl
theorem s311_329 {c : Nat → List AV → SS → Option Out} {l0 l1 l2 l4 l5 l6 l7 : Option AV} {o : OId} {L2 : List (Nat × AV)} {St : List AV} {S : SS} : ev c 311 329 [l0, l1, l2, some (aR o), l4, l5, l6, l7] L2 St S = ev c 311 330 [l0, l1, l2, some (aR o), l4, l5, l6, l7] L2 (aR o :: St) S := ev_go i311_329 rfl
theorem i311_330 : insAt 311 330 = some (.iconst 0, 1, (0, 0, 0, 0), 0) := rfl
theorem s311_330 {c : Nat → List AV → SS → Option Out} {l0 l1 l2 l3 l4 l5 l6 l7 : Option AV} {L2 : List (Nat × AV)} {St : List AV} {S : SS} : ev c 311 330 [l0, l1, l2, l3, l4, l5, l6, l7] L2 St S = ev c 311 331 [l0, l1, l2, l3, l4, l5, l6, l7] L2 (aI 0 :: St) S := ev_go i311_330 rfl
theorem i311_331 : insAt 311 331 = some (.laload, 1, (0, 0, 0, 0), 0) := rfl
theorem s311_331 {c : Nat → List AV → SS → Option Out} {l0 l1 l2 l3 l4 l5 l6 l7 : Option AV} {i : Int32} {o : OId} {L2 : List (Nat × AV)} {St : List AV} {S : SS} : ev c 311 331 [l0, l1, l2, l3, l4, l5, l6, l7] L2 (aI i :: aR o :: St) S = kJ o i (ev c 311 332 [l0, l1, l2, l3, l4, l5, l6, l7] L2 (aL (toL (S.2.1 o i.toNatClampNeg)) :: St) S) := ev_laload i311_331
theorem i311_332 : insAt 311 332 = some (.iload 7, 2, (0, 0, 0, 0), 0) := rfl
theorem s311_332 {c : Nat → List AV → SS → Option Out} {l0 l1 l2 l3 l4 l5 l6 : Option AV} {x : Int32} {L2 : List (Nat × AV)} {St : List AV} {S : SS} : ev c 311 332 [l0, l1, l2, l3, l4, l5, l6, some (aI x)] L2 St S = ev c 311 334 [l0, l1, l2, l3, l4, l5, l6, some (aI x)] L2 (aI x :: St) S := ev_go i311_332 rfl
theorem i311_334 : insAt 311 334 = some (.i2l, 1, (0, 0, 0, 0), 0) := rfl
theorem s311_334 {c : Nat → List AV → SS → Option Out} {l0 l1 l2 l3 l4 l5 l6 l7 : Option AV} {x : Int32} {L2 : List (Nat × AV)} {St : List AV} {S : SS} : ev c 311 334 [l0, l1, l2, l3, l4, l5, l6, l7] L2 (aI x :: St) S = ev c 311 335 [l0, l1, l2, l3, l4, l5, l6, l7] L2 (aL x.toInt64 :: St) S := ev_go i311_334 rfl
theorem i311_335 : insAt 311 335 = some (.lcmp, 1, (0, 0, 0, 0), 0) := rfl
theorem s311_335 {c : Nat → List AV → SS → Option Out} {l0 l1 l2 l3 l4 l5 l6 l7 : Option AV} {x y : Int64} {L2 : List (Nat × AV)} {St : List AV} {S : SS} : ev c 311 335 [l0, l1, l2, l3, l4, l5, l6, l7] L2 (aL y :: aL x :: St) S = ev c 311 336 [l0, l1, l2, l3, l4, l5, l6, l7] L2 (aI (if x < y then -1 else if x = y then 0 else 1) :: St) S := ev_go i311_335 rfl
theorem i311_336 : insAt 311 336 = some (.ifCond .eq 5, 3, (0, 0, 0, 0), 0) := rfl
theorem s311_336 {c : Nat → List AV → SS → Option Out} {l0 l1 l2 l3 l4 l5 l6 l7 : Option AV} {x : Int32} {L2 : List (Nat × AV)} {St : List AV} {S : SS} : ev c 311 336 [l0, l1, l2, l3, l4, l5, l6, l7] L2 (aI x :: St) S = if x = 0 then ev c 311 341 [l0, l1, l2, l3, l4, l5, l6, l7] L2 St S else ev c 311 339 [l0, l1, l2, l3, l4, l5, l6, l7] L2 St S := ev_br i311_336 rfl
theorem i311_339 : insAt 311 339 = some (.iconst 0, 1, (0, 0, 0, 0), 0) := rfl
theorem s311_339 {c : Nat → List AV → SS → Option Out} {l0 l1 l2 l3 l4 l5 l6 l7 : Option AV} {L2 : List (Nat × AV)} {St : List AV} {S : SS} : ev c 311 339 [l0, l1, l2, l3, l4, l5, l6, l7] L2 St S = ev c 311 340 [l0, l1, l2, l3, l4, l5, l6, l7] L2 (aI 0 :: St) S := ev_go i311_339 rfl
theorem i311_340 : insAt 311 340 = some (.ireturn, 1, (0, 0, 0, 0), 0) := rfl
theorem s311_340 {c : Nat → List AV → SS → Option Out} {l0 l1 l2 l3 l4 l5 l6 l7 : Option AV} {x : Int32} {L2 : List (Nat × AV)} {S : SS} : ev c 311 340 [l0, l1, l2, l3, l4, l5, l6, l7] L2 [aI x] S = if x = 0 ∨ x = 1 then some (.inl (some (aI x)), S) else none := ev_rt i311_340 rfl
theorem i311_341 : insAt 311 341 = some (.goto 2458, 3, (0, 0, 0, 0), 0) := rfl
theorem s311_341 {c : Nat → List AV → SS → Option Out} {l0 l1 l2 l3 l4 l5 l6 l7 : Option AV} {L2 : List (Nat × AV)} {St : List AV} {S : SS} : ev c 311 341 [l0, l1, l2, l3, l4, l5, l6, l7] L2 St S = ev c 311 2799 [l0, l1, l2, l3, l4, l5, l6, l7] L2 St S := ev_go i311_341 rfl
theorem i311_344 : insAt 311 344 = some (.aload_n 1, 1, (0, 0, 0, 0), 0) := rfl
theorem s311_344 {c : Nat → List AV → SS → Option Out} {l0 l2 l3 l4 l5 l6 l7 : Option AV} {o : OId} {L2 : List (Nat × AV)} {St : List AV} {S : SS} : ev c 311 344 [l0, some (aR o), l2, l3, l4, l5, l6, l7] L2 St S = ev c 311 345 [l0, some (aR o), l2, l3, l4, l5, l6, l7] L2 (aR o :: St) S := ev_go i311_344 rfl
theorem i311_345 : insAt 311 345 = some (.invokevirtual 152, 3, (10, 0, 2, 11), 442) := rfl
theorem s311_345 {c : Nat → List AV → SS → Option Out} {l0 l1 l2 l3 l4 l5 l6 l7 : Option AV} {j t : Nat} {L2 : List (Nat × AV)} {S : SS} : ev c 311 345 [l0, l1, l2, l3, l4, l5, l6, l7] L2 [aR (11, j, t)] S = ck (c 10 [aR (11, j, t)] S) (fun v S' => ev c 311 348 [l0, l1, l2, l3, l4, l5, l6, l7] L2 (v.toList ++ []) S') := ev_call i311_345 rfl
theorem i311_348 : insAt 311 348 = some (.aload_n 2, 1, (0, 0, 0, 0), 0) := rfl
theorem s311_348 {c : Nat → List AV → SS → Option Out} {l0 l1 l3 l4 l5 l6 l7 : Option AV} {o : OId} {L2 : List (Nat × AV)} {St : List AV} {S : SS} : ev c 311 348 [l0, l1, some (aR o), l3, l4, l5, l6, l7] L2 St S = ev c 311 349 [l0, l1, some (aR o), l3, l4, l5, l6, l7] L2 (aR o :: St) S := ev_go i311_348 rfl
theorem i311_349 : insAt 311 349 = some (.invokevirtual 155, 3, (219, 0, 2, 12), 443) := rfl
theorem s311_349 {c : Nat → List AV → SS → Option Out} {l0 l1 l2 l3 l4 l5 l6 l7 : Option AV} {t0 : AV} {j t : Nat} {L2 : List (Nat × AV)} {S : SS} : ev c 311 349 [l0, l1, l2, l3, l4, l5, l6, l7] L2 [aR (12, j, t), t0] S = ck (c 219 [aR (12, j, t)] S) (fun v S' => ev c 311 352 [l0, l1, l2, l3, l4, l5, l6, l7] L2 (v.toList ++ [t0]) S') := ev_call i311_349 rfl
theorem i311_352 : insAt 311 352 = some (.if_icmp .eq 2447, 3, (0, 0, 0, 0), 0) := rfl
theorem s311_352 {c : Nat → List AV → SS → Option Out} {l0 l1 l2 l3 l4 l5 l6 l7 : Option AV} {x y : Int32} {L2 : List (Nat × AV)} {St : List AV} {S : SS} : ev c 311 352 [l0, l1, l2, l3, l4, l5, l6, l7] L2 (aI y :: aI x :: St) S = if x = y then ev c 311 2799 [l0, l1, l2, l3, l4, l5, l6, l7] L2 St S else ev c 311 355 [l0, l1, l2, l3, l4, l5, l6, l7] L2 St S := ev_br i311_352 rfl
theorem i311_355 : insAt 311 355 = some (.iconst 0, 1, (0, 0, 0, 0), 0) := rfl
theorem s311_355 {c : Nat → List AV → SS → Option Out} {l0 l1 l2 l3 l4 l5 l6 l7 : Option AV} {L2 : List (Nat × AV)} {St : List AV} {S : SS} : ev c 311 355 [l0, l1, l2, l3, l4, l5, l6, l7] L2 St S = ev c 311 356 [l0, l1, l2, l3, l4, l5, l6, l7] L2 (aI 0 :: St) S := ev_go i311_355 rfl
theorem i311_356 : insAt 311 356 = some (.ireturn, 1, (0, 0, 0, 0), 0) := rfl
theorem s311_356 {c : Nat → List AV → SS → Option Out} {l0 l1 l2 l3 l4 l5 l6 l7 : Option AV} {x : Int32} {L2 : List (Nat × AV)} {S : SS} : ev c 311 356 [l0, l1, l2, l3, l4, l5, l6, l7] L2 [aI x] S = if x = 0 ∨ x = 1 then some (.inl (some (aI x)), S) else none := ev_rt i311_356 rfl
theorem i311_357 : insAt 311 357 = some (.aload_n 1, 1, (0, 0, 0, 0), 0) := rfl
theorem s311_357 {c : Nat → List AV → SS → Option Out} {l0 l2 l3 l4 l5 l6 l7 : Option AV} {o : OId} {L2 : List (Nat × AV)} {St : List AV} {S : SS} : ev c 311 357 [l0, some (aR o), l2, l3, l4, l5, l6, l7] L2 St S = ev c 311 358 [l0, some (aR o), l2, l3, l4, l5, l6, l7] L2 (aR o :: St) S := ev_go i311_357 rfl
theorem i311_358 : insAt 311 358 = some (.invokevirtual 156, 3, (11, 0, 2, 11), 444) := rfl
theorem s311_358 {c : Nat → List AV → SS → Option Out} {l0 l1 l2 l3 l4 l5 l6 l7 : Option AV} {j t : Nat} {L2 : List (Nat × AV)} {S : SS} : ev c 311 358 [l0, l1, l2, l3, l4, l5, l6, l7] L2 [aR (11, j, t)] S = ck (c 11 [aR (11, j, t)] S) (fun v S' => ev c 311 361 [l0, l1, l2, l3, l4, l5, l6, l7] L2 (v.toList ++ []) S') := ev_call i311_358 rfl
theorem i311_361 : insAt 311 361 = some (.aload_n 2, 1, (0, 0, 0, 0), 0) := rfl
theorem s311_361 {c : Nat → List AV → SS → Option Out} {l0 l1 l3 l4 l5 l6 l7 : Option AV} {o : OId} {L2 : List (Nat × AV)} {St : List AV} {S : SS} : ev c 311 361 [l0, l1, some (aR o), l3, l4, l5, l6, l7] L2 St S = ev c 311 362 [l0, l1, some (aR o), l3, l4, l5, l6, l7] L2 (aR o :: St) S := ev_go i311_361 rfl
theorem i311_362 : insAt 311 362 = some (.invokevirtual 159, 3, (221, 0, 2, 12), 445) := rfl
theorem s311_362 {c : Nat → List AV → SS → Option Out} {l0 l1 l2 l3 l4 l5 l6 l7 : Option AV} {t0 : AV} {j t : Nat} {L2 : List (Nat × AV)} {S : SS} : ev c 311 362 [l0, l1, l2, l3, l4, l5, l6, l7] L2 [aR (12, j, t), t0] S = ck (c 221 [aR (12, j, t)] S) (fun v S' => ev c 311 365 [l0, l1, l2, l3, l4, l5, l6, l7] L2 (v.toList ++ [t0]) S') := ev_call i311_362 rfl
theorem i311_365 : insAt 311 365 = some (.if_icmp .eq 2434, 3, (0, 0, 0, 0), 0) := rfl
theorem s311_365 {c : Nat → List AV → SS → Option Out} {l0 l1 l2 l3 l4 l5 l6 l7 : Option AV} {x y : Int32} {L2 : List (Nat × AV)} {St : List AV} {S : SS} : ev c 311 365 [l0, l1, l2, l3, l4, l5, l6, l7] L2 (aI y :: aI x :: St) S = if x = y then ev c 311 2799 [l0, l1, l2, l3, l4, l5, l6, l7] L2 St S else ev c 311 368 [l0, l1, l2, l3, l4, l5, l6, l7] L2 St S := ev_br i311_365 rfl
theorem i311_368 : insAt 311 368 = some (.iconst 0, 1, (0, 0, 0, 0), 0) := rfl
theorem s311_368 {c : Nat → List AV → SS → Option Out} {l0 l1 l2 l3 l4 l5 l6 l7 : Option AV} {L2 : List (Nat × AV)} {St : List AV} {S : SS} : ev c 311 368 [l0, l1, l2, l3, l4, l5, l6, l7] L2 St S = ev c 311 369 [l0, l1, l2, l3, l4, l5, l6, l7] L2 (aI 0 :: St) S := ev_go i311_368 rfl
theorem i311_369 : insAt 311 369 = some (.ireturn, 1, (0, 0, 0, 0), 0) := rfl
theorem s311_369 {c : Nat → List AV → SS → Option Out} {l0 l1 l2 l3 l4 l5 l6 l7 : Option AV} {x : Int32} {L2 : List (Nat × AV)} {S : SS} : ev c 311 369 [l0, l1, l2, l3, l4, l5, l6, l7] L2 [aI x] S = if x = 0 ∨ x = 1 then some (.inl (some (aI x)), S) else none := ev_rt i311_369 rfl
theorem i311_370 : insAt 311 370 = some (.aload_n 1, 1, (0, 0, 0, 0), 0) := rfl
theorem s311_370 {c : Nat → List AV → SS → Option Out} {l0 l2 l3 l4 l5 l6 l7 : Option AV} {o : OId} {L2 : List (Nat × AV)} {St : List AV} {S : SS} : ev c 311 370 [l0, some (aR o), l2, l3, l4, l5, l6, l7] L2 St S = ev c 311 371 [l0, some (aR o), l2, l3, l4, l5, l6, l7] L2 (aR o :: St) S := ev_go i311_370 rfl
theorem i311_371 : insAt 311 371 = some (.invokevirtual 160, 3, (12, 0, 2, 11), 446) := rfl
theorem s311_371 {c : Nat → List AV → SS → Option Out} {l0 l1 l2 l3 l4 l5 l6 l7 : Option AV} {j t : Nat} {L2 : List (Nat × AV)} {S : SS} : ev c 311 371 [l0, l1, l2, l3, l4, l5, l6, l7] L2 [aR (11, j, t)] S = ck (c 12 [aR (11, j, t)] S) (fun v S' => ev c 311 374 [l0, l1, l2, l3, l4, l5, l6, l7] L2 (v.toList ++ []) S') := ev_call i311_371 rfl
theorem i311_374 : insAt 311 374 = some (.aload_n 2, 1, (0, 0, 0, 0), 0) := rfl
theorem s311_374 {c : Nat → List AV → SS → Option Out} {l0 l1 l3 l4 l5 l6 l7 : Option AV} {o : OId} {L2 : List (Nat × AV)} {St : List AV} {S : SS} : ev c 311 374 [l0, l1, some (aR o), l3, l4, l5, l6, l7] L2 St S = ev c 311 375 [l0, l1, some (aR o), l3, l4, l5, l6, l7] L2 (aR o :: St) S := ev_go i311_374 rfl
theorem i311_375 : insAt 311 375 = some (.invokevirtual 163, 3, (222, 0, 2, 12), 447) := rfl
theorem s311_375 {c : Nat → List AV → SS → Option Out} {l0 l1 l2 l3 l4 l5 l6 l7 : Option AV} {t0 : AV} {j t : Nat} {L2 : List (Nat × AV)} {S : SS} : ev c 311 375 [l0, l1, l2, l3, l4, l5, l6, l7] L2 [aR (12, j, t), t0] S = ck (c 222 [aR (12, j, t)] S) (fun v S' => ev c 311 378 [l0, l1, l2, l3, l4, l5, l6, l7] L2 (v.toList ++ [t0]) S') := ev_call i311_375 rfl
theorem i311_378 : insAt 311 378 = some (.if_icmp .eq 2421, 3, (0, 0, 0, 0), 0) := rfl
theorem s311_378 {c : Nat → List AV → SS → Option Out} {l0 l1 l2 l3 l4 l5 l6 l7 : Option AV} {x y : Int32} {L2 : List (Nat × AV)} {St : List AV} {S : SS} : ev c 311 378 [l0, l1, l2, l3, l4, l5, l6, l7] L2 (aI y :: aI x :: St) S = if x = y then ev c 311 2799 [l0, l1, l2, l3, l4, l5, l6, l7] L2 St S else ev c 311 381 [l0, l1, l2, l3, l4, l5, l6, l7] L2 St S := ev_br i311_378 rfl
theorem i311_381 : insAt 311 381 = some (.iconst 0, 1, (0, 0, 0, 0), 0) := rfl
theorem s311_381 {c : Nat → List AV → SS → Option Out} {l0 l1 l2 l3 l4 l5 l6 l7 : Option AV} {L2 : List (Nat × AV)} {St : List AV} {S : SS} : ev c 311 381 [l0, l1, l2, l3, l4, l5, l6, l7] L2 St S = ev c 311 382 [l0, l1, l2, l3, l4, l5, l6, l7] L2 (aI 0 :: St) S := ev_go i311_381 rfl
theorem i311_382 : insAt 311 382 = some (.ireturn, 1, (0, 0, 0, 0), 0) := rfl
theorem s311_382 {c : Nat → List AV → SS → Option Out} {l0 l1 l2 l3 l4 l5 l6 l7 : Option AV} {x : Int32} {L2 : List (Nat × AV)} {S : SS} : ev c 311 382 [l0, l1, l2, l3, l4, l5, l6, l7] L2 [aI x] S = if x = 0 ∨ x = 1 then some (.inl (some (aI x)), S) else none := ev_rt i311_382 rfl
theorem i311_383 : insAt 311 383 = some (.aload_n 1, 1, (0, 0, 0, 0), 0) := rfl
theorem s311_383 {c : Nat → List AV → SS → Option Out} {l0 l2 l3 l4 l5 l6 l7 : Option AV} {o : OId} {L2 : List (Nat × AV)} {St : List AV} {S : SS} : ev c 311 383 [l0, some (aR o), l2, l3, l4, l5, l6, l7] L2 St S = ev c 311 384 [l0, some (aR o), l2, l3, l4, l5, l6, l7] L2 (aR o :: St) S := ev_go i311_383 rfl
theorem i311_384 : insAt 311 384 = some (.aload_n 0, 1, (0, 0, 0, 0), 0) := rfl
theorem s311_384 {c : Nat → List AV → SS → Option Out} {l1 l2 l3 l4 l5 l6 l7 : Option AV} {o : OId} {L2 : List (Nat × AV)} {St : List AV} {S : SS} : ev c 311 384 [some (aR o), l1, l2, l3, l4, l5, l6, l7] L2 St S = ev c 311 385 [some (aR o), l1, l2, l3, l4, l5, l6, l7] L2 (aR o :: St) S := ev_go i311_384 rfl
theorem i311_385 : insAt 311 385 = some (.iload 5, 2, (0, 0, 0, 0), 0) := rfl
theorem s311_385 {c : Nat → List AV → SS → Option Out} {l0 l1 l2 l3 l4 l6 l7 : Option AV} {x : Int32} {L2 : List (Nat × AV)} {St : List AV} {S : SS} : ev c 311 385 [l0, l1, l2, l3, l4, some (aI x), l6, l7] L2 St S = ev c 311 387 [l0, l1, l2, l3, l4, some (aI x), l6, l7] L2 (aI x :: St) S := ev_go i311_385 rfl
theorem i311_387 : insAt 311 387 = some (.iconst 1, 1, (0, 0, 0, 0), 0) := rfl
theorem s311_387 {c : Nat → List AV → SS → Option Out} {l0 l1 l2 l3 l4 l5 l6 l7 : Option AV} {L2 : List (Nat × AV)} {St : List AV} {S : SS} : ev c 311 387 [l0, l1, l2, l3, l4, l5, l6, l7] L2 St S = ev c 311 388 [l0, l1, l2, l3, l4, l5, l6, l7] L2 (aI 1 :: St) S := ev_go i311_387 rfl
theorem i311_388 : insAt 311 388 = some (.iadd, 1, (0, 0, 0, 0), 0) := rfl
theorem s311_388 {c : Nat → List AV → SS → Option Out} {l0 l1 l2 l3 l4 l5 l6 l7 : Option AV} {x y : Int32} {L2 : List (Nat × AV)} {St : List AV} {S : SS} : ev c 311 388 [l0, l1, l2, l3, l4, l5, l6, l7] L2 (aI y :: aI x :: St) S = ev c 311 389 [l0, l1, l2, l3, l4, l5, l6, l7] L2 (aI (x + y) :: St) S := ev_go i311_388 rfl
theorem i311_389 : insAt 311 389 = some (.iaload, 1, (0, 0, 0, 0), 0) := rfl
theorem s311_389 {c : Nat → List AV → SS → Option Out} {l0 l1 l2 l3 l4 l5 l6 l7 : Option AV} {i : Int32} {o : OId} {L2 : List (Nat × AV)} {St : List AV} {S : SS} : ev c 311 389 [l0, l1, l2, l3, l4, l5, l6, l7] L2 (aI i :: aR o :: St) S = kI o i (ev c 311 390 [l0, l1, l2, l3, l4, l5, l6, l7] L2 (aI (agI S o i.toNatClampNeg) :: St) S) := ev_iaload i311_389
theorem i311_390 : insAt 311 390 = some (.aload_n 0, 1, (0, 0, 0, 0), 0) := rfl
theorem s311_390 {c : Nat → List AV → SS → Option Out} {l1 l2 l3 l4 l5 l6 l7 : Option AV} {o : OId} {L2 : List (Nat × AV)} {St : List AV} {S : SS} : ev c 311 390 [some (aR o), l1, l2, l3, l4, l5, l6, l7] L2 St S = ev c 311 391 [some (aR o), l1, l2, l3, l4, l5, l6, l7] L2 (aR o :: St) S := ev_go i311_390 rfl
theorem i311_391 : insAt 311 391 = some (.iload 5, 2, (0, 0, 0, 0), 0) := rfl
theorem s311_391 {c : Nat → List AV → SS → Option Out} {l0 l1 l2 l3 l4 l6 l7 : Option AV} {x : Int32} {L2 : List (Nat × AV)} {St : List AV} {S : SS} : ev c 311 391 [l0, l1, l2, l3, l4, some (aI x), l6, l7] L2 St S = ev c 311 393 [l0, l1, l2, l3, l4, some (aI x), l6, l7] L2 (aI x :: St) S := ev_go i311_391 rfl
theorem i311_393 : insAt 311 393 = some (.iconst 2, 1, (0, 0, 0, 0), 0) := rfl
theorem s311_393 {c : Nat → List AV → SS → Option Out} {l0 l1 l2 l3 l4 l5 l6 l7 : Option AV} {L2 : List (Nat × AV)} {St : List AV} {S : SS} : ev c 311 393 [l0, l1, l2, l3, l4, l5, l6, l7] L2 St S = ev c 311 394 [l0, l1, l2, l3, l4, l5, l6, l7] L2 (aI 2 :: St) S := ev_go i311_393 rfl
theorem i311_394 : insAt 311 394 = some (.iadd, 1, (0, 0, 0, 0), 0) := rfl
theorem s311_394 {c : Nat → List AV → SS → Option Out} {l0 l1 l2 l3 l4 l5 l6 l7 : Option AV} {x y : Int32} {L2 : List (Nat × AV)} {St : List AV} {S : SS} : ev c 311 394 [l0, l1, l2, l3, l4, l5, l6, l7] L2 (aI y :: aI x :: St) S = ev c 311 395 [l0, l1, l2, l3, l4, l5, l6, l7] L2 (aI (x + y) :: St) S := ev_go i311_394 rfl
theorem i311_395 : insAt 311 395 = some (.iaload, 1, (0, 0, 0, 0), 0) := rfl
theorem s311_395 {c : Nat → List AV → SS → Option Out} {l0 l1 l2 l3 l4 l5 l6 l7 : Option AV} {i : Int32} {o : OId} {L2 : List (Nat × AV)} {St : List AV} {S : SS} : ev c 311 395 [l0, l1, l2, l3, l4, l5, l6, l7] L2 (aI i :: aR o :: St) S = kI o i (ev c 311 396 [l0, l1, l2, l3, l4, l5, l6, l7] L2 (aI (agI S o i.toNatClampNeg) :: St) S) := ev_iaload i311_395
theorem i311_396 : insAt 311 396 = some (.aload_n 0, 1, (0, 0, 0, 0), 0) := rfl
theorem s311_396 {c : Nat → List AV → SS → Option Out} {l1 l2 l3 l4 l5 l6 l7 : Option AV} {o : OId} {L2 : List (Nat × AV)} {St : List AV} {S : SS} : ev c 311 396 [some (aR o), l1, l2, l3, l4, l5, l6, l7] L2 St S = ev c 311 397 [some (aR o), l1, l2, l3, l4, l5, l6, l7] L2 (aR o :: St) S := ev_go i311_396 rfl
theorem i311_397 : insAt 311 397 = some (.iload 5, 2, (0, 0, 0, 0), 0) := rfl
theorem s311_397 {c : Nat → List AV → SS → Option Out} {l0 l1 l2 l3 l4 l6 l7 : Option AV} {x : Int32} {L2 : List (Nat × AV)} {St : List AV} {S : SS} : ev c 311 397 [l0, l1, l2, l3, l4, some (aI x), l6, l7] L2 St S = ev c 311 399 [l0, l1, l2, l3, l4, some (aI x), l6, l7] L2 (aI x :: St) S := ev_go i311_397 rfl
theorem i311_399 : insAt 311 399 = some (.iconst 3, 1, (0, 0, 0, 0), 0) := rfl
theorem s311_399 {c : Nat → List AV → SS → Option Out} {l0 l1 l2 l3 l4 l5 l6 l7 : Option AV} {L2 : List (Nat × AV)} {St : List AV} {S : SS} : ev c 311 399 [l0, l1, l2, l3, l4, l5, l6, l7] L2 St S = ev c 311 400 [l0, l1, l2, l3, l4, l5, l6, l7] L2 (aI 3 :: St) S := ev_go i311_399 rfl
theorem i311_400 : insAt 311 400 = some (.iadd, 1, (0, 0, 0, 0), 0) := rfl
theorem s311_400 {c : Nat → List AV → SS → Option Out} {l0 l1 l2 l3 l4 l5 l6 l7 : Option AV} {x y : Int32} {L2 : List (Nat × AV)} {St : List AV} {S : SS} : ev c 311 400 [l0, l1, l2, l3, l4, l5, l6, l7] L2 (aI y :: aI x :: St) S = ev c 311 401 [l0, l1, l2, l3, l4, l5, l6, l7] L2 (aI (x + y) :: St) S := ev_go i311_400 rfl
theorem i311_401 : insAt 311 401 = some (.iaload, 1, (0, 0, 0, 0), 0) := rfl
theorem s311_401 {c : Nat → List AV → SS → Option Out} {l0 l1 l2 l3 l4 l5 l6 l7 : Option AV} {i : Int32} {o : OId} {L2 : List (Nat × AV)} {St : List AV} {S : SS} : ev c 311 401 [l0, l1, l2, l3, l4, l5, l6, l7] L2 (aI i :: aR o :: St) S = kI o i (ev c 311 402 [l0, l1, l2, l3, l4, l5, l6, l7] L2 (aI (agI S o i.toNatClampNeg) :: St) S) := ev_iaload i311_401
theorem i311_402 : insAt 311 402 = some (.aload_n 3, 1, (0, 0, 0, 0), 0) := rfl
theorem s311_402 {c : Nat → List AV → SS → Option Out} {l0 l1 l2 l4 l5 l6 l7 : Option AV} {o : OId} {L2 : List (Nat × AV)} {St : List AV} {S : SS} : ev c 311 402 [l0, l1, l2, some (aR o), l4, l5, l6, l7] L2 St S = ev c 311 403 [l0, l1, l2, some (aR o), l4, l5, l6, l7] L2 (aR o :: St) S := ev_go i311_402 rfl
theorem i311_403 : insAt 311 403 = some (.invokestatic 164, 3, (61, 5, 0, 0), 448) := rfl
theorem s311_403 {c : Nat → List AV → SS → Option Out} {l0 l1 l2 l3 l4 l5 l6 l7 : Option AV} {a0 : OId} {a1 : Int32} {a2 : Int32} {a3 : Int32} {a4 : OId} {L2 : List (Nat × AV)} {S : SS} : ev c 311 403 [l0, l1, l2, l3, l4, l5, l6, l7] L2 [aR a4, aI a3, aI a2, aI a1, aR a0] S = ck (c 61 [aR a0, aI a1, aI a2, aI a3, aR a4] S) (fun v S' => ev c 311 406 [l0, l1, l2, l3, l4, l5, l6, l7] L2 (v.toList ++ []) S') := ev_call i311_403 rfl
theorem i311_406 : insAt 311 406 = some (.istore 6, 2, (0, 0, 0, 0), 0) := rfl
theorem s311_406 {c : Nat → List AV → SS → Option Out} {l0 l1 l2 l3 l4 l5 l6 l7 : Option AV} {x : Int32} {L2 : List (Nat × AV)} {St : List AV} {S : SS} : ev c 311 406 [l0, l1, l2, l3, l4, l5, l6, l7] L2 (aI x :: St) S = ev c 311 408 [l0, l1, l2, l3, l4, l5, some (aI x), l7] (kil L2 6) St S := ev_go i311_406 rfl
theorem i311_408 : insAt 311 408 = some (.aload_n 2, 1, (0, 0, 0, 0), 0) := rfl
theorem s311_408 {c : Nat → List AV → SS → Option Out} {l0 l1 l3 l4 l5 l6 l7 : Option AV} {o : OId} {L2 : List (Nat × AV)} {St : List AV} {S : SS} : ev c 311 408 [l0, l1, some (aR o), l3, l4, l5, l6, l7] L2 St S = ev c 311 409 [l0, l1, some (aR o), l3, l4, l5, l6, l7] L2 (aR o :: St) S := ev_go i311_408 rfl
theorem i311_409 : insAt 311 409 = some (.aload_n 0, 1, (0, 0, 0, 0), 0) := rfl
theorem s311_409 {c : Nat → List AV → SS → Option Out} {l1 l2 l3 l4 l5 l6 l7 : Option AV} {o : OId} {L2 : List (Nat × AV)} {St : List AV} {S : SS} : ev c 311 409 [some (aR o), l1, l2, l3, l4, l5, l6, l7] L2 St S = ev c 311 410 [some (aR o), l1, l2, l3, l4, l5, l6, l7] L2 (aR o :: St) S := ev_go i311_409 rfl
theorem i311_410 : insAt 311 410 = some (.iload 5, 2, (0, 0, 0, 0), 0) := rfl
theorem s311_410 {c : Nat → List AV → SS → Option Out} {l0 l1 l2 l3 l4 l6 l7 : Option AV} {x : Int32} {L2 : List (Nat × AV)} {St : List AV} {S : SS} : ev c 311 410 [l0, l1, l2, l3, l4, some (aI x), l6, l7] L2 St S = ev c 311 412 [l0, l1, l2, l3, l4, some (aI x), l6, l7] L2 (aI x :: St) S := ev_go i311_410 rfl
theorem i311_412 : insAt 311 412 = some (.iconst 1, 1, (0, 0, 0, 0), 0) := rfl
theorem s311_412 {c : Nat → List AV → SS → Option Out} {l0 l1 l2 l3 l4 l5 l6 l7 : Option AV} {L2 : List (Nat × AV)} {St : List AV} {S : SS} : ev c 311 412 [l0, l1, l2, l3, l4, l5, l6, l7] L2 St S = ev c 311 413 [l0, l1, l2, l3, l4, l5, l6, l7] L2 (aI 1 :: St) S := ev_go i311_412 rfl
theorem i311_413 : insAt 311 413 = some (.iadd, 1, (0, 0, 0, 0), 0) := rfl
theorem s311_413 {c : Nat → List AV → SS → Option Out} {l0 l1 l2 l3 l4 l5 l6 l7 : Option AV} {x y : Int32} {L2 : List (Nat × AV)} {St : List AV} {S : SS} : ev c 311 413 [l0, l1, l2, l3, l4, l5, l6, l7] L2 (aI y :: aI x :: St) S = ev c 311 414 [l0, l1, l2, l3, l4, l5, l6, l7] L2 (aI (x + y) :: St) S := ev_go i311_413 rfl
theorem i311_414 : insAt 311 414 = some (.iaload, 1, (0, 0, 0, 0), 0) := rfl
theorem s311_414 {c : Nat → List AV → SS → Option Out} {l0 l1 l2 l3 l4 l5 l6 l7 : Option AV} {i : Int32} {o : OId} {L2 : List (Nat × AV)} {St : List AV} {S : SS} : ev c 311 414 [l0, l1, l2, l3, l4, l5, l6, l7] L2 (aI i :: aR o :: St) S = kI o i (ev c 311 415 [l0, l1, l2, l3, l4, l5, l6, l7] L2 (aI (agI S o i.toNatClampNeg) :: St) S) := ev_iaload i311_414
theorem i311_415 : insAt 311 415 = some (.aload_n 0, 1, (0, 0, 0, 0), 0) := rfl
theorem s311_415 {c : Nat → List AV → SS → Option Out} {l1 l2 l3 l4 l5 l6 l7 : Option AV} {o : OId} {L2 : List (Nat × AV)} {St : List AV} {S : SS} : ev c 311 415 [some (aR o), l1, l2, l3, l4, l5, l6, l7] L2 St S = ev c 311 416 [some (aR o), l1, l2, l3, l4, l5, l6, l7] L2 (aR o :: St) S := ev_go i311_415 rfl
theorem i311_416 : insAt 311 416 = some (.iload 5, 2, (0, 0, 0, 0), 0) := rfl
theorem s311_416 {c : Nat → List AV → SS → Option Out} {l0 l1 l2 l3 l4 l6 l7 : Option AV} {x : Int32} {L2 : List (Nat × AV)} {St : List AV} {S : SS} : ev c 311 416 [l0, l1, l2, l3, l4, some (aI x), l6, l7] L2 St S = ev c 311 418 [l0, l1, l2, l3, l4, some (aI x), l6, l7] L2 (aI x :: St) S := ev_go i311_416 rfl
theorem i311_418 : insAt 311 418 = some (.iconst 2, 1, (0, 0, 0, 0), 0) := rfl
theorem s311_418 {c : Nat → List AV → SS → Option Out} {l0 l1 l2 l3 l4 l5 l6 l7 : Option AV} {L2 : List (Nat × AV)} {St : List AV} {S : SS} : ev c 311 418 [l0, l1, l2, l3, l4, l5, l6, l7] L2 St S = ev c 311 419 [l0, l1, l2, l3, l4, l5, l6, l7] L2 (aI 2 :: St) S := ev_go i311_418 rfl
theorem i311_419 : insAt 311 419 = some (.iadd, 1, (0, 0, 0, 0), 0) := rfl
theorem s311_419 {c : Nat → List AV → SS → Option Out} {l0 l1 l2 l3 l4 l5 l6 l7 : Option AV} {x y : Int32} {L2 : List (Nat × AV)} {St : List AV} {S : SS} : ev c 311 419 [l0, l1, l2, l3, l4, l5, l6, l7] L2 (aI y :: aI x :: St) S = ev c 311 420 [l0, l1, l2, l3, l4, l5, l6, l7] L2 (aI (x + y) :: St) S := ev_go i311_419 rfl
theorem i311_420 : insAt 311 420 = some (.iaload, 1, (0, 0, 0, 0), 0) := rfl
theorem s311_420 {c : Nat → List AV → SS → Option Out} {l0 l1 l2 l3 l4 l5 l6 l7 : Option AV} {i : Int32} {o : OId} {L2 : List (Nat × AV)} {St : List AV} {S : SS} : ev c 311 420 [l0, l1, l2, l3, l4, l5, l6, l7] L2 (aI i :: aR o :: St) S = kI o i (ev c 311 421 [l0, l1, l2, l3, l4, l5, l6, l7] L2 (aI (agI S o i.toNatClampNeg) :: St) S) := ev_iaload i311_420
theorem i311_421 : insAt 311 421 = some (.aload_n 0, 1, (0, 0, 0, 0), 0) := rfl
theorem s311_421 {c : Nat → List AV → SS → Option Out} {l1 l2 l3 l4 l5 l6 l7 : Option AV} {o : OId} {L2 : List (Nat × AV)} {St : List AV} {S : SS} : ev c 311 421 [some (aR o), l1, l2, l3, l4, l5, l6, l7] L2 St S = ev c 311 422 [some (aR o), l1, l2, l3, l4, l5, l6, l7] L2 (aR o :: St) S := ev_go i311_421 rfl
theorem i311_422 : insAt 311 422 = some (.iload 5, 2, (0, 0, 0, 0), 0) := rfl
theorem s311_422 {c : Nat → List AV → SS → Option Out} {l0 l1 l2 l3 l4 l6 l7 : Option AV} {x : Int32} {L2 : List (Nat × AV)} {St : List AV} {S : SS} : ev c 311 422 [l0, l1, l2, l3, l4, some (aI x), l6, l7] L2 St S = ev c 311 424 [l0, l1, l2, l3, l4, some (aI x), l6, l7] L2 (aI x :: St) S := ev_go i311_422 rfl
theorem i311_424 : insAt 311 424 = some (.iconst 3, 1, (0, 0, 0, 0), 0) := rfl
theorem s311_424 {c : Nat → List AV → SS → Option Out} {l0 l1 l2 l3 l4 l5 l6 l7 : Option AV} {L2 : List (Nat × AV)} {St : List AV} {S : SS} : ev c 311 424 [l0, l1, l2, l3, l4, l5, l6, l7] L2 St S = ev c 311 425 [l0, l1, l2, l3, l4, l5, l6, l7] L2 (aI 3 :: St) S := ev_go i311_424 rfl
theorem i311_425 : insAt 311 425 = some (.iadd, 1, (0, 0, 0, 0), 0) := rfl
theorem s311_425 {c : Nat → List AV → SS → Option Out} {l0 l1 l2 l3 l4 l5 l6 l7 : Option AV} {x y : Int32} {L2 : List (Nat × AV)} {St : List AV} {S : SS} : ev c 311 425 [l0, l1, l2, l3, l4, l5, l6, l7] L2 (aI y :: aI x :: St) S = ev c 311 426 [l0, l1, l2, l3, l4, l5, l6, l7] L2 (aI (x + y) :: St) S := ev_go i311_425 rfl
theorem i311_426 : insAt 311 426 = some (.iaload, 1, (0, 0, 0, 0), 0) := rfl
theorem s311_426 {c : Nat → List AV → SS → Option Out} {l0 l1 l2 l3 l4 l5 l6 l7 : Option AV} {i : Int32} {o : OId} {L2 : List (Nat × AV)} {St : List AV} {S : SS} : ev c 311 426 [l0, l1, l2, l3, l4, l5, l6, l7] L2 (aI i :: aR o :: St) S = kI o i (ev c 311 427 [l0, l1, l2, l3, l4, l5, l6, l7] L2 (aI (agI S o i.toNatClampNeg) :: St) S) := ev_iaload i311_426
theorem i311_427 : insAt 311 427 = some (.invokevirtual 166, 3, (223, 3, 2, 12), 449) := rfl
theorem s311_427 {c : Nat → List AV → SS → Option Out} {l0 l1 l2 l3 l4 l5 l6 l7 : Option AV} {a0 : Int32} {a1 : Int32} {a2 : Int32} {j t : Nat} {L2 : List (Nat × AV)} {S : SS} : ev c 311 427 [l0, l1, l2, l3, l4, l5, l6, l7] L2 [aI a2, aI a1, aI a0, aR (12, j, t)] S = ck (c 223 [aR (12, j, t), aI a0, aI a1, aI a2] S) (fun v S' => ev c 311 430 [l0, l1, l2, l3, l4, l5, l6, l7] L2 (v.toList ++ []) S') := ev_call i311_427 rfl
theorem i311_430 : insAt 311 430 = some (.istore 7, 2, (0, 0, 0, 0), 0) := rfl
theorem s311_430 {c : Nat → List AV → SS → Option Out} {l0 l1 l2 l3 l4 l5 l6 l7 : Option AV} {x : Int32} {L2 : List (Nat × AV)} {St : List AV} {S : SS} : ev c 311 430 [l0, l1, l2, l3, l4, l5, l6, l7] L2 (aI x :: St) S = ev c 311 432 [l0, l1, l2, l3, l4, l5, l6, some (aI x)] (kil L2 7) St S := ev_go i311_430 rfl
theorem i311_432 : insAt 311 432 = some (.aload_n 2, 1, (0, 0, 0, 0), 0) := rfl
theorem s311_432 {c : Nat → List AV → SS → Option Out} {l0 l1 l3 l4 l5 l6 l7 : Option AV} {o : OId} {L2 : List (Nat × AV)} {St : List AV} {S : SS} : ev c 311 432 [l0, l1, some (aR o), l3, l4, l5, l6, l7] L2 St S = ev c 311 433 [l0, l1, some (aR o), l3, l4, l5, l6, l7] L2 (aR o :: St) S := ev_go i311_432 rfl
theorem i311_433 : insAt 311 433 = some (.invokevirtual 149, 3, (215, 0, 2, 12), 441) := rfl
theorem s311_433 {c : Nat → List AV → SS → Option Out} {l0 l1 l2 l3 l4 l5 l6 l7 : Option AV} {j t : Nat} {L2 : List (Nat × AV)} {S : SS} : ev c 311 433 [l0, l1, l2, l3, l4, l5, l6, l7] L2 [aR (12, j, t)] S = ck (c 215 [aR (12, j, t)] S) (fun v S' => ev c 311 436 [l0, l1, l2, l3, l4, l5, l6, l7] L2 (v.toList ++ []) S') := ev_call i311_433 rfl
theorem i311_436 : insAt 311 436 = some (.iload 6, 2, (0, 0, 0, 0), 0) := rfl
theorem s311_436 {c : Nat → List AV → SS → Option Out} {l0 l1 l2 l3 l4 l5 l7 : Option AV} {x : Int32} {L2 : List (Nat × AV)} {St : List AV} {S : SS} : ev c 311 436 [l0, l1, l2, l3, l4, l5, some (aI x), l7] L2 St S = ev c 311 438 [l0, l1, l2, l3, l4, l5, some (aI x), l7] L2 (aI x :: St) S := ev_go i311_436 rfl
theorem i311_438 : insAt 311 438 = some (.if_icmp .eq 5, 3, (0, 0, 0, 0), 0) := rfl
theorem s311_438 {c : Nat → List AV → SS → Option Out} {l0 l1 l2 l3 l4 l5 l6 l7 : Option AV} {x y : Int32} {L2 : List (Nat × AV)} {St : List AV} {S : SS} : ev c 311 438 [l0, l1, l2, l3, l4, l5, l6, l7] L2 (aI y :: aI x :: St) S = if x = y then ev c 311 443 [l0, l1, l2, l3, l4, l5, l6, l7] L2 St S else ev c 311 441 [l0, l1, l2, l3, l4, l5, l6, l7] L2 St S := ev_br i311_438 rfl
theorem i311_441 : insAt 311 441 = some (.iconst 0, 1, (0, 0, 0, 0), 0) := rfl
theorem s311_441 {c : Nat → List AV → SS → Option Out} {l0 l1 l2 l3 l4 l5 l6 l7 : Option AV} {L2 : List (Nat × AV)} {St : List AV} {S : SS} : ev c 311 441 [l0, l1, l2, l3, l4, l5, l6, l7] L2 St S = ev c 311 442 [l0, l1, l2, l3, l4, l5, l6, l7] L2 (aI 0 :: St) S := ev_go i311_441 rfl
theorem i311_442 : insAt 311 442 = some (.ireturn, 1, (0, 0, 0, 0), 0) := rfl
theorem s311_442 {c : Nat → List AV → SS → Option Out} {l0 l1 l2 l3 l4 l5 l6 l7 : Option AV} {x : Int32} {L2 : List (Nat × AV)} {S : SS} : ev c 311 442 [l0, l1, l2, l3, l4, l5, l6, l7] L2 [aI x] S = if x = 0 ∨ x = 1 then some (.inl (some (aI x)), S) else none := ev_rt i311_442 rfl
theorem i311_443 : insAt 311 443 = some (.iload 6, 2, (0, 0, 0, 0), 0) := rfl
theorem s311_443 {c : Nat → List AV → SS → Option Out} {l0 l1 l2 l3 l4 l5 l7 : Option AV} {x : Int32} {L2 : List (Nat × AV)} {St : List AV} {S : SS} : ev c 311 443 [l0, l1, l2, l3, l4, l5, some (aI x), l7] L2 St S = ev c 311 445 [l0, l1, l2, l3, l4, l5, some (aI x), l7] L2 (aI x :: St) S := ev_go i311_443 rfl
theorem i311_445 : insAt 311 445 = some (.ifCond .ne 15, 3, (0, 0, 0, 0), 0) := rfl
theorem s311_445 {c : Nat → List AV → SS → Option Out} {l0 l1 l2 l3 l4 l5 l6 l7 : Option AV} {x : Int32} {L2 : List (Nat × AV)} {St : List AV} {S : SS} : ev c 311 445 [l0, l1, l2, l3, l4, l5, l6, l7] L2 (aI x :: St) S = if x = 0 then ev c 311 448 [l0, l1, l2, l3, l4, l5, l6, l7] L2 St S else ev c 311 460 [l0, l1, l2, l3, l4, l5, l6, l7] L2 St S := (ev_br i311_445 rfl).trans (ite_not _ _ _)
theorem i311_448 : insAt 311 448 = some (.aload_n 3, 1, (0, 0, 0, 0), 0) := rfl
theorem s311_448 {c : Nat → List AV → SS → Option Out} {l0 l1 l2 l4 l5 l6 l7 : Option AV} {o : OId} {L2 : List (Nat × AV)} {St : List AV} {S : SS} : ev c 311 448 [l0, l1, l2, some (aR o), l4, l5, l6, l7] L2 St S = ev c 311 449 [l0, l1, l2, some (aR o), l4, l5, l6, l7] L2 (aR o :: St) S := ev_go i311_448 rfl
theorem i311_449 : insAt 311 449 = some (.iconst 0, 1, (0, 0, 0, 0), 0) := rfl
theorem s311_449 {c : Nat → List AV → SS → Option Out} {l0 l1 l2 l3 l4 l5 l6 l7 : Option AV} {L2 : List (Nat × AV)} {St : List AV} {S : SS} : ev c 311 449 [l0, l1, l2, l3, l4, l5, l6, l7] L2 St S = ev c 311 450 [l0, l1, l2, l3, l4, l5, l6, l7] L2 (aI 0 :: St) S := ev_go i311_449 rfl
theorem i311_450 : insAt 311 450 = some (.laload, 1, (0, 0, 0, 0), 0) := rfl
theorem s311_450 {c : Nat → List AV → SS → Option Out} {l0 l1 l2 l3 l4 l5 l6 l7 : Option AV} {i : Int32} {o : OId} {L2 : List (Nat × AV)} {St : List AV} {S : SS} : ev c 311 450 [l0, l1, l2, l3, l4, l5, l6, l7] L2 (aI i :: aR o :: St) S = kJ o i (ev c 311 451 [l0, l1, l2, l3, l4, l5, l6, l7] L2 (aL (toL (S.2.1 o i.toNatClampNeg)) :: St) S) := ev_laload i311_450
theorem i311_451 : insAt 311 451 = some (.iload 7, 2, (0, 0, 0, 0), 0) := rfl
theorem s311_451 {c : Nat → List AV → SS → Option Out} {l0 l1 l2 l3 l4 l5 l6 : Option AV} {x : Int32} {L2 : List (Nat × AV)} {St : List AV} {S : SS} : ev c 311 451 [l0, l1, l2, l3, l4, l5, l6, some (aI x)] L2 St S = ev c 311 453 [l0, l1, l2, l3, l4, l5, l6, some (aI x)] L2 (aI x :: St) S := ev_go i311_451 rfl
theorem i311_453 : insAt 311 453 = some (.i2l, 1, (0, 0, 0, 0), 0) := rfl
theorem s311_453 {c : Nat → List AV → SS → Option Out} {l0 l1 l2 l3 l4 l5 l6 l7 : Option AV} {x : Int32} {L2 : List (Nat × AV)} {St : List AV} {S : SS} : ev c 311 453 [l0, l1, l2, l3, l4, l5, l6, l7] L2 (aI x :: St) S = ev c 311 454 [l0, l1, l2, l3, l4, l5, l6, l7] L2 (aL x.toInt64 :: St) S := ev_go i311_453 rfl
theorem i311_454 : insAt 311 454 = some (.lcmp, 1, (0, 0, 0, 0), 0) := rfl
theorem s311_454 {c : Nat → List AV → SS → Option Out} {l0 l1 l2 l3 l4 l5 l6 l7 : Option AV} {x y : Int64} {L2 : List (Nat × AV)} {St : List AV} {S : SS} : ev c 311 454 [l0, l1, l2, l3, l4, l5, l6, l7] L2 (aL y :: aL x :: St) S = ev c 311 455 [l0, l1, l2, l3, l4, l5, l6, l7] L2 (aI (if x < y then -1 else if x = y then 0 else 1) :: St) S := ev_go i311_454 rfl
theorem i311_455 : insAt 311 455 = some (.ifCond .eq 5, 3, (0, 0, 0, 0), 0) := rfl
theorem s311_455 {c : Nat → List AV → SS → Option Out} {l0 l1 l2 l3 l4 l5 l6 l7 : Option AV} {x : Int32} {L2 : List (Nat × AV)} {St : List AV} {S : SS} : ev c 311 455 [l0, l1, l2, l3, l4, l5, l6, l7] L2 (aI x :: St) S = if x = 0 then ev c 311 460 [l0, l1, l2, l3, l4, l5, l6, l7] L2 St S else ev c 311 458 [l0, l1, l2, l3, l4, l5, l6, l7] L2 St S := ev_br i311_455 rfl
theorem i311_458 : insAt 311 458 = some (.iconst 0, 1, (0, 0, 0, 0), 0) := rfl
theorem s311_458 {c : Nat → List AV → SS → Option Out} {l0 l1 l2 l3 l4 l5 l6 l7 : Option AV} {L2 : List (Nat × AV)} {St : List AV} {S : SS} : ev c 311 458 [l0, l1, l2, l3, l4, l5, l6, l7] L2 St S = ev c 311 459 [l0, l1, l2, l3, l4, l5, l6, l7] L2 (aI 0 :: St) S := ev_go i311_458 rfl
theorem i311_459 : insAt 311 459 = some (.ireturn, 1, (0, 0, 0, 0), 0) := rfl
theorem s311_459 {c : Nat → List AV → SS → Option Out} {l0 l1 l2 l3 l4 l5 l6 l7 : Option AV} {x : Int32} {L2 : List (Nat × AV)} {S : SS} : ev c 311 459 [l0, l1, l2, l3, l4, l5, l6, l7] L2 [aI x] S = if x = 0 ∨ x = 1 then some (.inl (some (aI x)), S) else none := ev_rt i311_459 rfl
theorem i311_460 : insAt 311 460 = some (.goto 2339, 3, (0, 0, 0, 0), 0) := rfl
theorem s311_460 {c : Nat → List AV → SS → Option Out} {l0 l1 l2 l3 l4 l5 l6 l7 : Option AV} {L2 : List (Nat × AV)} {St : List AV} {S : SS} : ev c 311 460 [l0, l1, l2, l3, l4, l5, l6, l7] L2 St S = ev c 311 2799 [l0, l1, l2, l3, l4, l5, l6, l7] L2 St S := ev_go i311_460 rfl
theorem i311_463 : insAt 311 463 = some (.aload_n 1, 1, (0, 0, 0, 0), 0) := rfl
theorem s311_463 {c : Nat → List AV → SS → Option Out} {l0 l2 l3 l4 l5 l6 l7 : Option AV} {o : OId} {L2 : List (Nat × AV)} {St : List AV} {S : SS} : ev c 311 463 [l0, some (aR o), l2, l3, l4, l5, l6, l7] L2 St S = ev c 311 464 [l0, some (aR o), l2, l3, l4, l5, l6, l7] L2 (aR o :: St) S := ev_go i311_463 rfl
theorem i311_464 : insAt 311 464 = some (.aload_n 0, 1, (0, 0, 0, 0), 0) := rfl
theorem s311_464 {c : Nat → List AV → SS → Option Out} {l1 l2 l3 l4 l5 l6 l7 : Option AV} {o : OId} {L2 : List (Nat × AV)} {St : List AV} {S : SS} : ev c 311 464 [some (aR o), l1, l2, l3, l4, l5, l6, l7] L2 St S = ev c 311 465 [some (aR o), l1, l2, l3, l4, l5, l6, l7] L2 (aR o :: St) S := ev_go i311_464 rfl
theorem i311_465 : insAt 311 465 = some (.iload 5, 2, (0, 0, 0, 0), 0) := rfl
theorem s311_465 {c : Nat → List AV → SS → Option Out} {l0 l1 l2 l3 l4 l6 l7 : Option AV} {x : Int32} {L2 : List (Nat × AV)} {St : List AV} {S : SS} : ev c 311 465 [l0, l1, l2, l3, l4, some (aI x), l6, l7] L2 St S = ev c 311 467 [l0, l1, l2, l3, l4, some (aI x), l6, l7] L2 (aI x :: St) S := ev_go i311_465 rfl
theorem i311_467 : insAt 311 467 = some (.iconst 1, 1, (0, 0, 0, 0), 0) := rfl
theorem s311_467 {c : Nat → List AV → SS → Option Out} {l0 l1 l2 l3 l4 l5 l6 l7 : Option AV} {L2 : List (Nat × AV)} {St : List AV} {S : SS} : ev c 311 467 [l0, l1, l2, l3, l4, l5, l6, l7] L2 St S = ev c 311 468 [l0, l1, l2, l3, l4, l5, l6, l7] L2 (aI 1 :: St) S := ev_go i311_467 rfl
theorem i311_468 : insAt 311 468 = some (.iadd, 1, (0, 0, 0, 0), 0) := rfl
theorem s311_468 {c : Nat → List AV → SS → Option Out} {l0 l1 l2 l3 l4 l5 l6 l7 : Option AV} {x y : Int32} {L2 : List (Nat × AV)} {St : List AV} {S : SS} : ev c 311 468 [l0, l1, l2, l3, l4, l5, l6, l7] L2 (aI y :: aI x :: St) S = ev c 311 469 [l0, l1, l2, l3, l4, l5, l6, l7] L2 (aI (x + y) :: St) S := ev_go i311_468 rfl
theorem i311_469 : insAt 311 469 = some (.iaload, 1, (0, 0, 0, 0), 0) := rfl
theorem s311_469 {c : Nat → List AV → SS → Option Out} {l0 l1 l2 l3 l4 l5 l6 l7 : Option AV} {i : Int32} {o : OId} {L2 : List (Nat × AV)} {St : List AV} {S : SS} : ev c 311 469 [l0, l1, l2, l3, l4, l5, l6, l7] L2 (aI i :: aR o :: St) S = kI o i (ev c 311 470 [l0, l1, l2, l3, l4, l5, l6, l7] L2 (aI (agI S o i.toNatClampNeg) :: St) S) := ev_iaload i311_469
theorem i311_470 : insAt 311 470 = some (.aload_n 0, 1, (0, 0, 0, 0), 0) := rfl
theorem s311_470 {c : Nat → List AV → SS → Option Out} {l1 l2 l3 l4 l5 l6 l7 : Option AV} {o : OId} {L2 : List (Nat × AV)} {St : List AV} {S : SS} : ev c 311 470 [some (aR o), l1, l2, l3, l4, l5, l6, l7] L2 St S = ev c 311 471 [some (aR o), l1, l2, l3, l4, l5, l6, l7] L2 (aR o :: St) S := ev_go i311_470 rfl
theorem i311_471 : insAt 311 471 = some (.iload 5, 2, (0, 0, 0, 0), 0) := rfl
theorem s311_471 {c : Nat → List AV → SS → Option Out} {l0 l1 l2 l3 l4 l6 l7 : Option AV} {x : Int32} {L2 : List (Nat × AV)} {St : List AV} {S : SS} : ev c 311 471 [l0, l1, l2, l3, l4, some (aI x), l6, l7] L2 St S = ev c 311 473 [l0, l1, l2, l3, l4, some (aI x), l6, l7] L2 (aI x :: St) S := ev_go i311_471 rfl
theorem i311_473 : insAt 311 473 = some (.iconst 2, 1, (0, 0, 0, 0), 0) := rfl
theorem s311_473 {c : Nat → List AV → SS → Option Out} {l0 l1 l2 l3 l4 l5 l6 l7 : Option AV} {L2 : List (Nat × AV)} {St : List AV} {S : SS} : ev c 311 473 [l0, l1, l2, l3, l4, l5, l6, l7] L2 St S = ev c 311 474 [l0, l1, l2, l3, l4, l5, l6, l7] L2 (aI 2 :: St) S := ev_go i311_473 rfl
theorem i311_474 : insAt 311 474 = some (.iadd, 1, (0, 0, 0, 0), 0) := rfl
theorem s311_474 {c : Nat → List AV → SS → Option Out} {l0 l1 l2 l3 l4 l5 l6 l7 : Option AV} {x y : Int32} {L2 : List (Nat × AV)} {St : List AV} {S : SS} : ev c 311 474 [l0, l1, l2, l3, l4, l5, l6, l7] L2 (aI y :: aI x :: St) S = ev c 311 475 [l0, l1, l2, l3, l4, l5, l6, l7] L2 (aI (x + y) :: St) S := ev_go i311_474 rfl
theorem i311_475 : insAt 311 475 = some (.iaload, 1, (0, 0, 0, 0), 0) := rfl
theorem s311_475 {c : Nat → List AV → SS → Option Out} {l0 l1 l2 l3 l4 l5 l6 l7 : Option AV} {i : Int32} {o : OId} {L2 : List (Nat × AV)} {St : List AV} {S : SS} : ev c 311 475 [l0, l1, l2, l3, l4, l5, l6, l7] L2 (aI i :: aR o :: St) S = kI o i (ev c 311 476 [l0, l1, l2, l3, l4, l5, l6, l7] L2 (aI (agI S o i.toNatClampNeg) :: St) S) := ev_iaload i311_475
theorem i311_476 : insAt 311 476 = some (.aload_n 0, 1, (0, 0, 0, 0), 0) := rfl
theorem s311_476 {c : Nat → List AV → SS → Option Out} {l1 l2 l3 l4 l5 l6 l7 : Option AV} {o : OId} {L2 : List (Nat × AV)} {St : List AV} {S : SS} : ev c 311 476 [some (aR o), l1, l2, l3, l4, l5, l6, l7] L2 St S = ev c 311 477 [some (aR o), l1, l2, l3, l4, l5, l6, l7] L2 (aR o :: St) S := ev_go i311_476 rfl
theorem i311_477 : insAt 311 477 = some (.iload 5, 2, (0, 0, 0, 0), 0) := rfl
theorem s311_477 {c : Nat → List AV → SS → Option Out} {l0 l1 l2 l3 l4 l6 l7 : Option AV} {x : Int32} {L2 : List (Nat × AV)} {St : List AV} {S : SS} : ev c 311 477 [l0, l1, l2, l3, l4, some (aI x), l6, l7] L2 St S = ev c 311 479 [l0, l1, l2, l3, l4, some (aI x), l6, l7] L2 (aI x :: St) S := ev_go i311_477 rfl
theorem i311_479 : insAt 311 479 = some (.iconst 3, 1, (0, 0, 0, 0), 0) := rfl
theorem s311_479 {c : Nat → List AV → SS → Option Out} {l0 l1 l2 l3 l4 l5 l6 l7 : Option AV} {L2 : List (Nat × AV)} {St : List AV} {S : SS} : ev c 311 479 [l0, l1, l2, l3, l4, l5, l6, l7] L2 St S = ev c 311 480 [l0, l1, l2, l3, l4, l5, l6, l7] L2 (aI 3 :: St) S := ev_go i311_479 rfl
theorem i311_480 : insAt 311 480 = some (.iadd, 1, (0, 0, 0, 0), 0) := rfl
theorem s311_480 {c : Nat → List AV → SS → Option Out} {l0 l1 l2 l3 l4 l5 l6 l7 : Option AV} {x y : Int32} {L2 : List (Nat × AV)} {St : List AV} {S : SS} : ev c 311 480 [l0, l1, l2, l3, l4, l5, l6, l7] L2 (aI y :: aI x :: St) S = ev c 311 481 [l0, l1, l2, l3, l4, l5, l6, l7] L2 (aI (x + y) :: St) S := ev_go i311_480 rfl
theorem i311_481 : insAt 311 481 = some (.iaload, 1, (0, 0, 0, 0), 0) := rfl
theorem s311_481 {c : Nat → List AV → SS → Option Out} {l0 l1 l2 l3 l4 l5 l6 l7 : Option AV} {i : Int32} {o : OId} {L2 : List (Nat × AV)} {St : List AV} {S : SS} : ev c 311 481 [l0, l1, l2, l3, l4, l5, l6, l7] L2 (aI i :: aR o :: St) S = kI o i (ev c 311 482 [l0, l1, l2, l3, l4, l5, l6, l7] L2 (aI (agI S o i.toNatClampNeg) :: St) S) := ev_iaload i311_481
theorem i311_482 : insAt 311 482 = some (.aload_n 3, 1, (0, 0, 0, 0), 0) := rfl
theorem s311_482 {c : Nat → List AV → SS → Option Out} {l0 l1 l2 l4 l5 l6 l7 : Option AV} {o : OId} {L2 : List (Nat × AV)} {St : List AV} {S : SS} : ev c 311 482 [l0, l1, l2, some (aR o), l4, l5, l6, l7] L2 St S = ev c 311 483 [l0, l1, l2, some (aR o), l4, l5, l6, l7] L2 (aR o :: St) S := ev_go i311_482 rfl
theorem i311_483 : insAt 311 483 = some (.invokestatic 167, 3, (83, 5, 0, 0), 450) := rfl
theorem s311_483 {c : Nat → List AV → SS → Option Out} {l0 l1 l2 l3 l4 l5 l6 l7 : Option AV} {a0 : OId} {a1 : Int32} {a2 : Int32} {a3 : Int32} {a4 : OId} {L2 : List (Nat × AV)} {S : SS} : ev c 311 483 [l0, l1, l2, l3, l4, l5, l6, l7] L2 [aR a4, aI a3, aI a2, aI a1, aR a0] S = ck (c 83 [aR a0, aI a1, aI a2, aI a3, aR a4] S) (fun v S' => ev c 311 486 [l0, l1, l2, l3, l4, l5, l6, l7] L2 (v.toList ++ []) S') := ev_call i311_483 rfl
theorem i311_486 : insAt 311 486 = some (.istore 6, 2, (0, 0, 0, 0), 0) := rfl
theorem s311_486 {c : Nat → List AV → SS → Option Out} {l0 l1 l2 l3 l4 l5 l6 l7 : Option AV} {x : Int32} {L2 : List (Nat × AV)} {St : List AV} {S : SS} : ev c 311 486 [l0, l1, l2, l3, l4, l5, l6, l7] L2 (aI x :: St) S = ev c 311 488 [l0, l1, l2, l3, l4, l5, some (aI x), l7] (kil L2 6) St S := ev_go i311_486 rfl
theorem i311_488 : insAt 311 488 = some (.aload_n 2, 1, (0, 0, 0, 0), 0) := rfl
theorem s311_488 {c : Nat → List AV → SS → Option Out} {l0 l1 l3 l4 l5 l6 l7 : Option AV} {o : OId} {L2 : List (Nat × AV)} {St : List AV} {S : SS} : ev c 311 488 [l0, l1, some (aR o), l3, l4, l5, l6, l7] L2 St S = ev c 311 489 [l0, l1, some (aR o), l3, l4, l5, l6, l7] L2 (aR o :: St) S := ev_go i311_488 rfl
theorem i311_489 : insAt 311 489 = some (.aload_n 0, 1, (0, 0, 0, 0), 0) := rfl
theorem s311_489 {c : Nat → List AV → SS → Option Out} {l1 l2 l3 l4 l5 l6 l7 : Option AV} {o : OId} {L2 : List (Nat × AV)} {St : List AV} {S : SS} : ev c 311 489 [some (aR o), l1, l2, l3, l4, l5, l6, l7] L2 St S = ev c 311 490 [some (aR o), l1, l2, l3, l4, l5, l6, l7] L2 (aR o :: St) S := ev_go i311_489 rfl
theorem i311_490 : insAt 311 490 = some (.iload 5, 2, (0, 0, 0, 0), 0) := rfl
theorem s311_490 {c : Nat → List AV → SS → Option Out} {l0 l1 l2 l3 l4 l6 l7 : Option AV} {x : Int32} {L2 : List (Nat × AV)} {St : List AV} {S : SS} : ev c 311 490 [l0, l1, l2, l3, l4, some (aI x), l6, l7] L2 St S = ev c 311 492 [l0, l1, l2, l3, l4, some (aI x), l6, l7] L2 (aI x :: St) S := ev_go i311_490 rfl
theorem i311_492 : insAt 311 492 = some (.iconst 1, 1, (0, 0, 0, 0), 0) := rfl
theorem s311_492 {c : Nat → List AV → SS → Option Out} {l0 l1 l2 l3 l4 l5 l6 l7 : Option AV} {L2 : List (Nat × AV)} {St : List AV} {S : SS} : ev c 311 492 [l0, l1, l2, l3, l4, l5, l6, l7] L2 St S = ev c 311 493 [l0, l1, l2, l3, l4, l5, l6, l7] L2 (aI 1 :: St) S := ev_go i311_492 rfl
theorem i311_493 : insAt 311 493 = some (.iadd, 1, (0, 0, 0, 0), 0) := rfl
theorem s311_493 {c : Nat → List AV → SS → Option Out} {l0 l1 l2 l3 l4 l5 l6 l7 : Option AV} {x y : Int32} {L2 : List (Nat × AV)} {St : List AV} {S : SS} : ev c 311 493 [l0, l1, l2, l3, l4, l5, l6, l7] L2 (aI y :: aI x :: St) S = ev c 311 494 [l0, l1, l2, l3, l4, l5, l6, l7] L2 (aI (x + y) :: St) S := ev_go i311_493 rfl
theorem i311_494 : insAt 311 494 = some (.iaload, 1, (0, 0, 0, 0), 0) := rfl
theorem s311_494 {c : Nat → List AV → SS → Option Out} {l0 l1 l2 l3 l4 l5 l6 l7 : Option AV} {i : Int32} {o : OId} {L2 : List (Nat × AV)} {St : List AV} {S : SS} : ev c 311 494 [l0, l1, l2, l3, l4, l5, l6, l7] L2 (aI i :: aR o :: St) S = kI o i (ev c 311 495 [l0, l1, l2, l3, l4, l5, l6, l7] L2 (aI (agI S o i.toNatClampNeg) :: St) S) := ev_iaload i311_494
theorem i311_495 : insAt 311 495 = some (.aload_n 0, 1, (0, 0, 0, 0), 0) := rfl
theorem s311_495 {c : Nat → List AV → SS → Option Out} {l1 l2 l3 l4 l5 l6 l7 : Option AV} {o : OId} {L2 : List (Nat × AV)} {St : List AV} {S : SS} : ev c 311 495 [some (aR o), l1, l2, l3, l4, l5, l6, l7] L2 St S = ev c 311 496 [some (aR o), l1, l2, l3, l4, l5, l6, l7] L2 (aR o :: St) S := ev_go i311_495 rfl
theorem i311_496 : insAt 311 496 = some (.iload 5, 2, (0, 0, 0, 0), 0) := rfl
theorem s311_496 {c : Nat → List AV → SS → Option Out} {l0 l1 l2 l3 l4 l6 l7 : Option AV} {x : Int32} {L2 : List (Nat × AV)} {St : List AV} {S : SS} : ev c 311 496 [l0, l1, l2, l3, l4, some (aI x), l6, l7] L2 St S = ev c 311 498 [l0, l1, l2, l3, l4, some (aI x), l6, l7] L2 (aI x :: St) S := ev_go i311_496 rfl
theorem i311_498 : insAt 311 498 = some (.iconst 2, 1, (0, 0, 0, 0), 0) := rfl
theorem s311_498 {c : Nat → List AV → SS → Option Out} {l0 l1 l2 l3 l4 l5 l6 l7 : Option AV} {L2 : List (Nat × AV)} {St : List AV} {S : SS} : ev c 311 498 [l0, l1, l2, l3, l4, l5, l6, l7] L2 St S = ev c 311 499 [l0, l1, l2, l3, l4, l5, l6, l7] L2 (aI 2 :: St) S := ev_go i311_498 rfl
theorem i311_499 : insAt 311 499 = some (.iadd, 1, (0, 0, 0, 0), 0) := rfl
theorem s311_499 {c : Nat → List AV → SS → Option Out} {l0 l1 l2 l3 l4 l5 l6 l7 : Option AV} {x y : Int32} {L2 : List (Nat × AV)} {St : List AV} {S : SS} : ev c 311 499 [l0, l1, l2, l3, l4, l5, l6, l7] L2 (aI y :: aI x :: St) S = ev c 311 500 [l0, l1, l2, l3, l4, l5, l6, l7] L2 (aI (x + y) :: St) S := ev_go i311_499 rfl
theorem i311_500 : insAt 311 500 = some (.iaload, 1, (0, 0, 0, 0), 0) := rfl
theorem s311_500 {c : Nat → List AV → SS → Option Out} {l0 l1 l2 l3 l4 l5 l6 l7 : Option AV} {i : Int32} {o : OId} {L2 : List (Nat × AV)} {St : List AV} {S : SS} : ev c 311 500 [l0, l1, l2, l3, l4, l5, l6, l7] L2 (aI i :: aR o :: St) S = kI o i (ev c 311 501 [l0, l1, l2, l3, l4, l5, l6, l7] L2 (aI (agI S o i.toNatClampNeg) :: St) S) := ev_iaload i311_500
theorem i311_501 : insAt 311 501 = some (.aload_n 0, 1, (0, 0, 0, 0), 0) := rfl
theorem s311_501 {c : Nat → List AV → SS → Option Out} {l1 l2 l3 l4 l5 l6 l7 : Option AV} {o : OId} {L2 : List (Nat × AV)} {St : List AV} {S : SS} : ev c 311 501 [some (aR o), l1, l2, l3, l4, l5, l6, l7] L2 St S = ev c 311 502 [some (aR o), l1, l2, l3, l4, l5, l6, l7] L2 (aR o :: St) S := ev_go i311_501 rfl
theorem i311_502 : insAt 311 502 = some (.iload 5, 2, (0, 0, 0, 0), 0) := rfl
theorem s311_502 {c : Nat → List AV → SS → Option Out} {l0 l1 l2 l3 l4 l6 l7 : Option AV} {x : Int32} {L2 : List (Nat × AV)} {St : List AV} {S : SS} : ev c 311 502 [l0, l1, l2, l3, l4, some (aI x), l6, l7] L2 St S = ev c 311 504 [l0, l1, l2, l3, l4, some (aI x), l6, l7] L2 (aI x :: St) S := ev_go i311_502 rfl
theorem i311_504 : insAt 311 504 = some (.iconst 3, 1, (0, 0, 0, 0), 0) := rfl
theorem s311_504 {c : Nat → List AV → SS → Option Out} {l0 l1 l2 l3 l4 l5 l6 l7 : Option AV} {L2 : List (Nat × AV)} {St : List AV} {S : SS} : ev c 311 504 [l0, l1, l2, l3, l4, l5, l6, l7] L2 St S = ev c 311 505 [l0, l1, l2, l3, l4, l5, l6, l7] L2 (aI 3 :: St) S := ev_go i311_504 rfl
theorem i311_505 : insAt 311 505 = some (.iadd, 1, (0, 0, 0, 0), 0) := rfl
theorem s311_505 {c : Nat → List AV → SS → Option Out} {l0 l1 l2 l3 l4 l5 l6 l7 : Option AV} {x y : Int32} {L2 : List (Nat × AV)} {St : List AV} {S : SS} : ev c 311 505 [l0, l1, l2, l3, l4, l5, l6, l7] L2 (aI y :: aI x :: St) S = ev c 311 506 [l0, l1, l2, l3, l4, l5, l6, l7] L2 (aI (x + y) :: St) S := ev_go i311_505 rfl
theorem i311_506 : insAt 311 506 = some (.iaload, 1, (0, 0, 0, 0), 0) := rfl
theorem s311_506 {c : Nat → List AV → SS → Option Out} {l0 l1 l2 l3 l4 l5 l6 l7 : Option AV} {i : Int32} {o : OId} {L2 : List (Nat × AV)} {St : List AV} {S : SS} : ev c 311 506 [l0, l1, l2, l3, l4, l5, l6, l7] L2 (aI i :: aR o :: St) S = kI o i (ev c 311 507 [l0, l1, l2, l3, l4, l5, l6, l7] L2 (aI (agI S o i.toNatClampNeg) :: St) S) := ev_iaload i311_506
theorem i311_507 : insAt 311 507 = some (.invokevirtual 169, 3, (250, 3, 2, 12), 451) := rfl
theorem s311_507 {c : Nat → List AV → SS → Option Out} {l0 l1 l2 l3 l4 l5 l6 l7 : Option AV} {a0 : Int32} {a1 : Int32} {a2 : Int32} {j t : Nat} {L2 : List (Nat × AV)} {S : SS} : ev c 311 507 [l0, l1, l2, l3, l4, l5, l6, l7] L2 [aI a2, aI a1, aI a0, aR (12, j, t)] S = ck (c 250 [aR (12, j, t), aI a0, aI a1, aI a2] S) (fun v S' => ev c 311 510 [l0, l1, l2, l3, l4, l5, l6, l7] L2 (v.toList ++ []) S') := ev_call i311_507 rfl
theorem i311_510 : insAt 311 510 = some (.istore 7, 2, (0, 0, 0, 0), 0) := rfl
theorem s311_510 {c : Nat → List AV → SS → Option Out} {l0 l1 l2 l3 l4 l5 l6 l7 : Option AV} {x : Int32} {L2 : List (Nat × AV)} {St : List AV} {S : SS} : ev c 311 510 [l0, l1, l2, l3, l4, l5, l6, l7] L2 (aI x :: St) S = ev c 311 512 [l0, l1, l2, l3, l4, l5, l6, some (aI x)] (kil L2 7) St S := ev_go i311_510 rfl
theorem i311_512 : insAt 311 512 = some (.aload_n 2, 1, (0, 0, 0, 0), 0) := rfl
theorem s311_512 {c : Nat → List AV → SS → Option Out} {l0 l1 l3 l4 l5 l6 l7 : Option AV} {o : OId} {L2 : List (Nat × AV)} {St : List AV} {S : SS} : ev c 311 512 [l0, l1, some (aR o), l3, l4, l5, l6, l7] L2 St S = ev c 311 513 [l0, l1, some (aR o), l3, l4, l5, l6, l7] L2 (aR o :: St) S := ev_go i311_512 rfl
theorem i311_513 : insAt 311 513 = some (.invokevirtual 149, 3, (215, 0, 2, 12), 441) := rfl
theorem s311_513 {c : Nat → List AV → SS → Option Out} {l0 l1 l2 l3 l4 l5 l6 l7 : Option AV} {j t : Nat} {L2 : List (Nat × AV)} {S : SS} : ev c 311 513 [l0, l1, l2, l3, l4, l5, l6, l7] L2 [aR (12, j, t)] S = ck (c 215 [aR (12, j, t)] S) (fun v S' => ev c 311 516 [l0, l1, l2, l3, l4, l5, l6, l7] L2 (v.toList ++ []) S') := ev_call i311_513 rfl
theorem i311_516 : insAt 311 516 = some (.iload 6, 2, (0, 0, 0, 0), 0) := rfl
theorem s311_516 {c : Nat → List AV → SS → Option Out} {l0 l1 l2 l3 l4 l5 l7 : Option AV} {x : Int32} {L2 : List (Nat × AV)} {St : List AV} {S : SS} : ev c 311 516 [l0, l1, l2, l3, l4, l5, some (aI x), l7] L2 St S = ev c 311 518 [l0, l1, l2, l3, l4, l5, some (aI x), l7] L2 (aI x :: St) S := ev_go i311_516 rfl
theorem i311_518 : insAt 311 518 = some (.if_icmp .eq 5, 3, (0, 0, 0, 0), 0) := rfl
theorem s311_518 {c : Nat → List AV → SS → Option Out} {l0 l1 l2 l3 l4 l5 l6 l7 : Option AV} {x y : Int32} {L2 : List (Nat × AV)} {St : List AV} {S : SS} : ev c 311 518 [l0, l1, l2, l3, l4, l5, l6, l7] L2 (aI y :: aI x :: St) S = if x = y then ev c 311 523 [l0, l1, l2, l3, l4, l5, l6, l7] L2 St S else ev c 311 521 [l0, l1, l2, l3, l4, l5, l6, l7] L2 St S := ev_br i311_518 rfl
theorem i311_521 : insAt 311 521 = some (.iconst 0, 1, (0, 0, 0, 0), 0) := rfl
theorem s311_521 {c : Nat → List AV → SS → Option Out} {l0 l1 l2 l3 l4 l5 l6 l7 : Option AV} {L2 : List (Nat × AV)} {St : List AV} {S : SS} : ev c 311 521 [l0, l1, l2, l3, l4, l5, l6, l7] L2 St S = ev c 311 522 [l0, l1, l2, l3, l4, l5, l6, l7] L2 (aI 0 :: St) S := ev_go i311_521 rfl
theorem i311_522 : insAt 311 522 = some (.ireturn, 1, (0, 0, 0, 0), 0) := rfl
theorem s311_522 {c : Nat → List AV → SS → Option Out} {l0 l1 l2 l3 l4 l5 l6 l7 : Option AV} {x : Int32} {L2 : List (Nat × AV)} {S : SS} : ev c 311 522 [l0, l1, l2, l3, l4, l5, l6, l7] L2 [aI x] S = if x = 0 ∨ x = 1 then some (.inl (some (aI x)), S) else none := ev_rt i311_522 rfl
theorem i311_523 : insAt 311 523 = some (.iload 6, 2, (0, 0, 0, 0), 0) := rfl
theorem s311_523 {c : Nat → List AV → SS → Option Out} {l0 l1 l2 l3 l4 l5 l7 : Option AV} {x : Int32} {L2 : List (Nat × AV)} {St : List AV} {S : SS} : ev c 311 523 [l0, l1, l2, l3, l4, l5, some (aI x), l7] L2 St S = ev c 311 525 [l0, l1, l2, l3, l4, l5, some (aI x), l7] L2 (aI x :: St) S := ev_go i311_523 rfl
theorem i311_525 : insAt 311 525 = some (.ifCond .ne 15, 3, (0, 0, 0, 0), 0) := rfl
theorem s311_525 {c : Nat → List AV → SS → Option Out} {l0 l1 l2 l3 l4 l5 l6 l7 : Option AV} {x : Int32} {L2 : List (Nat × AV)} {St : List AV} {S : SS} : ev c 311 525 [l0, l1, l2, l3, l4, l5, l6, l7] L2 (aI x :: St) S = if x = 0 then ev c 311 528 [l0, l1, l2, l3, l4, l5, l6, l7] L2 St S else ev c 311 540 [l0, l1, l2, l3, l4, l5, l6, l7] L2 St S := (ev_br i311_525 rfl).trans (ite_not _ _ _)
theorem i311_528 : insAt 311 528 = some (.aload_n 3, 1, (0, 0, 0, 0), 0) := rfl
theorem s311_528 {c : Nat → List AV → SS → Option Out} {l0 l1 l2 l4 l5 l6 l7 : Option AV} {o : OId} {L2 : List (Nat × AV)} {St : List AV} {S : SS} : ev c 311 528 [l0, l1, l2, some (aR o), l4, l5, l6, l7] L2 St S = ev c 311 529 [l0, l1, l2, some (aR o), l4, l5, l6, l7] L2 (aR o :: St) S := ev_go i311_528 rfl
theorem i311_529 : insAt 311 529 = some (.iconst 0, 1, (0, 0, 0, 0), 0) := rfl
theorem s311_529 {c : Nat → List AV → SS → Option Out} {l0 l1 l2 l3 l4 l5 l6 l7 : Option AV} {L2 : List (Nat × AV)} {St : List AV} {S : SS} : ev c 311 529 [l0, l1, l2, l3, l4, l5, l6, l7] L2 St S = ev c 311 530 [l0, l1, l2, l3, l4, l5, l6, l7] L2 (aI 0 :: St) S := ev_go i311_529 rfl
theorem i311_530 : insAt 311 530 = some (.laload, 1, (0, 0, 0, 0), 0) := rfl
theorem s311_530 {c : Nat → List AV → SS → Option Out} {l0 l1 l2 l3 l4 l5 l6 l7 : Option AV} {i : Int32} {o : OId} {L2 : List (Nat × AV)} {St : List AV} {S : SS} : ev c 311 530 [l0, l1, l2, l3, l4, l5, l6, l7] L2 (aI i :: aR o :: St) S = kJ o i (ev c 311 531 [l0, l1, l2, l3, l4, l5, l6, l7] L2 (aL (toL (S.2.1 o i.toNatClampNeg)) :: St) S) := ev_laload i311_530
theorem i311_531 : insAt 311 531 = some (.iload 7, 2, (0, 0, 0, 0), 0) := rfl
theorem s311_531 {c : Nat → List AV → SS → Option Out} {l0 l1 l2 l3 l4 l5 l6 : Option AV} {x : Int32} {L2 : List (Nat × AV)} {St : List AV} {S : SS} : ev c 311 531 [l0, l1, l2, l3, l4, l5, l6, some (aI x)] L2 St S = ev c 311 533 [l0, l1, l2, l3, l4, l5, l6, some (aI x)] L2 (aI x :: St) S := ev_go i311_531 rfl
theorem i311_533 : insAt 311 533 = some (.i2l, 1, (0, 0, 0, 0), 0) := rfl
theorem s311_533 {c : Nat → List AV → SS → Option Out} {l0 l1 l2 l3 l4 l5 l6 l7 : Option AV} {x : Int32} {L2 : List (Nat × AV)} {St : List AV} {S : SS} : ev c 311 533 [l0, l1, l2, l3, l4, l5, l6, l7] L2 (aI x :: St) S = ev c 311 534 [l0, l1, l2, l3, l4, l5, l6, l7] L2 (aL x.toInt64 :: St) S := ev_go i311_533 rfl
theorem i311_534 : insAt 311 534 = some (.lcmp, 1, (0, 0, 0, 0), 0) := rfl
theorem s311_534 {c : Nat → List AV → SS → Option Out} {l0 l1 l2 l3 l4 l5 l6 l7 : Option AV} {x y : Int64} {L2 : List (Nat × AV)} {St : List AV} {S : SS} : ev c 311 534 [l0, l1, l2, l3, l4, l5, l6, l7] L2 (aL y :: aL x :: St) S = ev c 311 535 [l0, l1, l2, l3, l4, l5, l6, l7] L2 (aI (if x < y then -1 else if x = y then 0 else 1) :: St) S := ev_go i311_534 rfl
theorem i311_535 : insAt 311 535 = some (.ifCond .eq 5, 3, (0, 0, 0, 0), 0) := rfl
theorem s311_535 {c : Nat → List AV → SS → Option Out} {l0 l1 l2 l3 l4 l5 l6 l7 : Option AV} {x : Int32} {L2 : List (Nat × AV)} {St : List AV} {S : SS} : ev c 311 535 [l0, l1, l2, l3, l4, l5, l6, l7] L2 (aI x :: St) S = if x = 0 then ev c 311 540 [l0, l1, l2, l3, l4, l5, l6, l7] L2 St S else ev c 311 538 [l0, l1, l2, l3, l4, l5, l6, l7] L2 St S := ev_br i311_535 rfl
theorem i311_538 : insAt 311 538 = some (.iconst 0, 1, (0, 0, 0, 0), 0) := rfl
theorem s311_538 {c : Nat → List AV → SS → Option Out} {l0 l1 l2 l3 l4 l5 l6 l7 : Option AV} {L2 : List (Nat × AV)} {St : List AV} {S : SS} : ev c 311 538 [l0, l1, l2, l3, l4, l5, l6, l7] L2 St S = ev c 311 539 [l0, l1, l2, l3, l4, l5, l6, l7] L2 (aI 0 :: St) S := ev_go i311_538 rfl
theorem i311_539 : insAt 311 539 = some (.ireturn, 1, (0, 0, 0, 0), 0) := rfl
theorem s311_539 {c : Nat → List AV → SS → Option Out} {l0 l1 l2 l3 l4 l5 l6 l7 : Option AV} {x : Int32} {L2 : List (Nat × AV)} {S : SS} : ev c 311 539 [l0, l1, l2, l3, l4, l5, l6, l7] L2 [aI x] S = if x = 0 ∨ x = 1 then some (.inl (some (aI x)), S) else none := ev_rt i311_539 rfl
theorem i311_540 : insAt 311 540 = some (.goto 2259, 3, (0, 0, 0, 0), 0) := rfl
theorem s311_540 {c : Nat → List AV → SS → Option Out} {l0 l1 l2 l3 l4 l5 l6 l7 : Option AV} {L2 : List (Nat × AV)} {St : List AV} {S : SS} : ev c 311 540 [l0, l1, l2, l3, l4, l5, l6, l7] L2 St S = ev c 311 2799 [l0, l1, l2, l3, l4, l5, l6, l7] L2 St S := ev_go i311_540 rfl
theorem i311_543 : insAt 311 543 = some (.aload_n 1, 1, (0, 0, 0, 0), 0) := rfl
theorem s311_543 {c : Nat → List AV → SS → Option Out} {l0 l2 l3 l4 l5 l6 l7 : Option AV} {o : OId} {L2 : List (Nat × AV)} {St : List AV} {S : SS} : ev c 311 543 [l0, some (aR o), l2, l3, l4, l5, l6, l7] L2 St S = ev c 311 544 [l0, some (aR o), l2, l3, l4, l5, l6, l7] L2 (aR o :: St) S := ev_go i311_543 rfl
theorem i311_544 : insAt 311 544 = some (.aload_n 0, 1, (0, 0, 0, 0), 0) := rfl
theorem s311_544 {c : Nat → List AV → SS → Option Out} {l1 l2 l3 l4 l5 l6 l7 : Option AV} {o : OId} {L2 : List (Nat × AV)} {St : List AV} {S : SS} : ev c 311 544 [some (aR o), l1, l2, l3, l4, l5, l6, l7] L2 St S = ev c 311 545 [some (aR o), l1, l2, l3, l4, l5, l6, l7] L2 (aR o :: St) S := ev_go i311_544 rfl
theorem i311_545 : insAt 311 545 = some (.iload 5, 2, (0, 0, 0, 0), 0) := rfl
theorem s311_545 {c : Nat → List AV → SS → Option Out} {l0 l1 l2 l3 l4 l6 l7 : Option AV} {x : Int32} {L2 : List (Nat × AV)} {St : List AV} {S : SS} : ev c 311 545 [l0, l1, l2, l3, l4, some (aI x), l6, l7] L2 St S = ev c 311 547 [l0, l1, l2, l3, l4, some (aI x), l6, l7] L2 (aI x :: St) S := ev_go i311_545 rfl
theorem i311_547 : insAt 311 547 = some (.iconst 1, 1, (0, 0, 0, 0), 0) := rfl
theorem s311_547 {c : Nat → List AV → SS → Option Out} {l0 l1 l2 l3 l4 l5 l6 l7 : Option AV} {L2 : List (Nat × AV)} {St : List AV} {S : SS} : ev c 311 547 [l0, l1, l2, l3, l4, l5, l6, l7] L2 St S = ev c 311 548 [l0, l1, l2, l3, l4, l5, l6, l7] L2 (aI 1 :: St) S := ev_go i311_547 rfl
theorem i311_548 : insAt 311 548 = some (.iadd, 1, (0, 0, 0, 0), 0) := rfl
theorem s311_548 {c : Nat → List AV → SS → Option Out} {l0 l1 l2 l3 l4 l5 l6 l7 : Option AV} {x y : Int32} {L2 : List (Nat × AV)} {St : List AV} {S : SS} : ev c 311 548 [l0, l1, l2, l3, l4, l5, l6, l7] L2 (aI y :: aI x :: St) S = ev c 311 549 [l0, l1, l2, l3, l4, l5, l6, l7] L2 (aI (x + y) :: St) S := ev_go i311_548 rfl
theorem i311_549 : insAt 311 549 = some (.iaload, 1, (0, 0, 0, 0), 0) := rfl
theorem s311_549 {c : Nat → List AV → SS → Option Out} {l0 l1 l2 l3 l4 l5 l6 l7 : Option AV} {i : Int32} {o : OId} {L2 : List (Nat × AV)} {St : List AV} {S : SS} : ev c 311 549 [l0, l1, l2, l3, l4, l5, l6, l7] L2 (aI i :: aR o :: St) S = kI o i (ev c 311 550 [l0, l1, l2, l3, l4, l5, l6, l7] L2 (aI (agI S o i.toNatClampNeg) :: St) S) := ev_iaload i311_549
theorem i311_550 : insAt 311 550 = some (.aload_n 0, 1, (0, 0, 0, 0), 0) := rfl
theorem s311_550 {c : Nat → List AV → SS → Option Out} {l1 l2 l3 l4 l5 l6 l7 : Option AV} {o : OId} {L2 : List (Nat × AV)} {St : List AV} {S : SS} : ev c 311 550 [some (aR o), l1, l2, l3, l4, l5, l6, l7] L2 St S = ev c 311 551 [some (aR o), l1, l2, l3, l4, l5, l6, l7] L2 (aR o :: St) S := ev_go i311_550 rfl
theorem i311_551 : insAt 311 551 = some (.iload 5, 2, (0, 0, 0, 0), 0) := rfl
theorem s311_551 {c : Nat → List AV → SS → Option Out} {l0 l1 l2 l3 l4 l6 l7 : Option AV} {x : Int32} {L2 : List (Nat × AV)} {St : List AV} {S : SS} : ev c 311 551 [l0, l1, l2, l3, l4, some (aI x), l6, l7] L2 St S = ev c 311 553 [l0, l1, l2, l3, l4, some (aI x), l6, l7] L2 (aI x :: St) S := ev_go i311_551 rfl
theorem i311_553 : insAt 311 553 = some (.iconst 2, 1, (0, 0, 0, 0), 0) := rfl
theorem s311_553 {c : Nat → List AV → SS → Option Out} {l0 l1 l2 l3 l4 l5 l6 l7 : Option AV} {L2 : List (Nat × AV)} {St : List AV} {S : SS} : ev c 311 553 [l0, l1, l2, l3, l4, l5, l6, l7] L2 St S = ev c 311 554 [l0, l1, l2, l3, l4, l5, l6, l7] L2 (aI 2 :: St) S := ev_go i311_553 rfl
theorem i311_554 : insAt 311 554 = some (.iadd, 1, (0, 0, 0, 0), 0) := rfl
theorem s311_554 {c : Nat → List AV → SS → Option Out} {l0 l1 l2 l3 l4 l5 l6 l7 : Option AV} {x y : Int32} {L2 : List (Nat × AV)} {St : List AV} {S : SS} : ev c 311 554 [l0, l1, l2, l3, l4, l5, l6, l7] L2 (aI y :: aI x :: St) S = ev c 311 555 [l0, l1, l2, l3, l4, l5, l6, l7] L2 (aI (x + y) :: St) S := ev_go i311_554 rfl
theorem i311_555 : insAt 311 555 = some (.iaload, 1, (0, 0, 0, 0), 0) := rfl
theorem s311_555 {c : Nat → List AV → SS → Option Out} {l0 l1 l2 l3 l4 l5 l6 l7 : Option AV} {i : Int32} {o : OId} {L2 : List (Nat × AV)} {St : List AV} {S : SS} : ev c 311 555 [l0, l1, l2, l3, l4, l5, l6, l7] L2 (aI i :: aR o :: St) S = kI o i (ev c 311 556 [l0, l1, l2, l3, l4, l5, l6, l7] L2 (aI (agI S o i.toNatClampNeg) :: St) S) := ev_iaload i311_555
theorem i311_556 : insAt 311 556 = some (.aload_n 3, 1, (0, 0, 0, 0), 0) := rfl
theorem s311_556 {c : Nat → List AV → SS → Option Out} {l0 l1 l2 l4 l5 l6 l7 : Option AV} {o : OId} {L2 : List (Nat × AV)} {St : List AV} {S : SS} : ev c 311 556 [l0, l1, l2, some (aR o), l4, l5, l6, l7] L2 St S = ev c 311 557 [l0, l1, l2, some (aR o), l4, l5, l6, l7] L2 (aR o :: St) S := ev_go i311_556 rfl
theorem i311_557 : insAt 311 557 = some (.invokestatic 170, 3, (88, 4, 0, 0), 452) := rfl
theorem s311_557 {c : Nat → List AV → SS → Option Out} {l0 l1 l2 l3 l4 l5 l6 l7 : Option AV} {a0 : OId} {a1 : Int32} {a2 : Int32} {a3 : OId} {L2 : List (Nat × AV)} {S : SS} : ev c 311 557 [l0, l1, l2, l3, l4, l5, l6, l7] L2 [aR a3, aI a2, aI a1, aR a0] S = ck (c 88 [aR a0, aI a1, aI a2, aR a3] S) (fun v S' => ev c 311 560 [l0, l1, l2, l3, l4, l5, l6, l7] L2 (v.toList ++ []) S') := ev_call i311_557 rfl
theorem i311_560 : insAt 311 560 = some (.istore 6, 2, (0, 0, 0, 0), 0) := rfl
theorem s311_560 {c : Nat → List AV → SS → Option Out} {l0 l1 l2 l3 l4 l5 l6 l7 : Option AV} {x : Int32} {L2 : List (Nat × AV)} {St : List AV} {S : SS} : ev c 311 560 [l0, l1, l2, l3, l4, l5, l6, l7] L2 (aI x :: St) S = ev c 311 562 [l0, l1, l2, l3, l4, l5, some (aI x), l7] (kil L2 6) St S := ev_go i311_560 rfl
theorem i311_562 : insAt 311 562 = some (.aload_n 2, 1, (0, 0, 0, 0), 0) := rfl
theorem s311_562 {c : Nat → List AV → SS → Option Out} {l0 l1 l3 l4 l5 l6 l7 : Option AV} {o : OId} {L2 : List (Nat × AV)} {St : List AV} {S : SS} : ev c 311 562 [l0, l1, some (aR o), l3, l4, l5, l6, l7] L2 St S = ev c 311 563 [l0, l1, some (aR o), l3, l4, l5, l6, l7] L2 (aR o :: St) S := ev_go i311_562 rfl
theorem i311_563 : insAt 311 563 = some (.aload_n 0, 1, (0, 0, 0, 0), 0) := rfl
theorem s311_563 {c : Nat → List AV → SS → Option Out} {l1 l2 l3 l4 l5 l6 l7 : Option AV} {o : OId} {L2 : List (Nat × AV)} {St : List AV} {S : SS} : ev c 311 563 [some (aR o), l1, l2, l3, l4, l5, l6, l7] L2 St S = ev c 311 564 [some (aR o), l1, l2, l3, l4, l5, l6, l7] L2 (aR o :: St) S := ev_go i311_563 rfl
theorem i311_564 : insAt 311 564 = some (.iload 5, 2, (0, 0, 0, 0), 0) := rfl
theorem s311_564 {c : Nat → List AV → SS → Option Out} {l0 l1 l2 l3 l4 l6 l7 : Option AV} {x : Int32} {L2 : List (Nat × AV)} {St : List AV} {S : SS} : ev c 311 564 [l0, l1, l2, l3, l4, some (aI x), l6, l7] L2 St S = ev c 311 566 [l0, l1, l2, l3, l4, some (aI x), l6, l7] L2 (aI x :: St) S := ev_go i311_564 rfl
theorem i311_566 : insAt 311 566 = some (.iconst 1, 1, (0, 0, 0, 0), 0) := rfl
theorem s311_566 {c : Nat → List AV → SS → Option Out} {l0 l1 l2 l3 l4 l5 l6 l7 : Option AV} {L2 : List (Nat × AV)} {St : List AV} {S : SS} : ev c 311 566 [l0, l1, l2, l3, l4, l5, l6, l7] L2 St S = ev c 311 567 [l0, l1, l2, l3, l4, l5, l6, l7] L2 (aI 1 :: St) S := ev_go i311_566 rfl
theorem i311_567 : insAt 311 567 = some (.iadd, 1, (0, 0, 0, 0), 0) := rfl
theorem s311_567 {c : Nat → List AV → SS → Option Out} {l0 l1 l2 l3 l4 l5 l6 l7 : Option AV} {x y : Int32} {L2 : List (Nat × AV)} {St : List AV} {S : SS} : ev c 311 567 [l0, l1, l2, l3, l4, l5, l6, l7] L2 (aI y :: aI x :: St) S = ev c 311 568 [l0, l1, l2, l3, l4, l5, l6, l7] L2 (aI (x + y) :: St) S := ev_go i311_567 rfl
theorem i311_568 : insAt 311 568 = some (.iaload, 1, (0, 0, 0, 0), 0) := rfl
theorem s311_568 {c : Nat → List AV → SS → Option Out} {l0 l1 l2 l3 l4 l5 l6 l7 : Option AV} {i : Int32} {o : OId} {L2 : List (Nat × AV)} {St : List AV} {S : SS} : ev c 311 568 [l0, l1, l2, l3, l4, l5, l6, l7] L2 (aI i :: aR o :: St) S = kI o i (ev c 311 569 [l0, l1, l2, l3, l4, l5, l6, l7] L2 (aI (agI S o i.toNatClampNeg) :: St) S) := ev_iaload i311_568
theorem i311_569 : insAt 311 569 = some (.aload_n 0, 1, (0, 0, 0, 0), 0) := rfl
theorem s311_569 {c : Nat → List AV → SS → Option Out} {l1 l2 l3 l4 l5 l6 l7 : Option AV} {o : OId} {L2 : List (Nat × AV)} {St : List AV} {S : SS} : ev c 311 569 [some (aR o), l1, l2, l3, l4, l5, l6, l7] L2 St S = ev c 311 570 [some (aR o), l1, l2, l3, l4, l5, l6, l7] L2 (aR o :: St) S := ev_go i311_569 rfl
theorem i311_570 : insAt 311 570 = some (.iload 5, 2, (0, 0, 0, 0), 0) := rfl
theorem s311_570 {c : Nat → List AV → SS → Option Out} {l0 l1 l2 l3 l4 l6 l7 : Option AV} {x : Int32} {L2 : List (Nat × AV)} {St : List AV} {S : SS} : ev c 311 570 [l0, l1, l2, l3, l4, some (aI x), l6, l7] L2 St S = ev c 311 572 [l0, l1, l2, l3, l4, some (aI x), l6, l7] L2 (aI x :: St) S := ev_go i311_570 rfl
theorem i311_572 : insAt 311 572 = some (.iconst 2, 1, (0, 0, 0, 0), 0) := rfl
theorem s311_572 {c : Nat → List AV → SS → Option Out} {l0 l1 l2 l3 l4 l5 l6 l7 : Option AV} {L2 : List (Nat × AV)} {St : List AV} {S : SS} : ev c 311 572 [l0, l1, l2, l3, l4, l5, l6, l7] L2 St S = ev c 311 573 [l0, l1, l2, l3, l4, l5, l6, l7] L2 (aI 2 :: St) S := ev_go i311_572 rfl
theorem i311_573 : insAt 311 573 = some (.iadd, 1, (0, 0, 0, 0), 0) := rfl
theorem s311_573 {c : Nat → List AV → SS → Option Out} {l0 l1 l2 l3 l4 l5 l6 l7 : Option AV} {x y : Int32} {L2 : List (Nat × AV)} {St : List AV} {S : SS} : ev c 311 573 [l0, l1, l2, l3, l4, l5, l6, l7] L2 (aI y :: aI x :: St) S = ev c 311 574 [l0, l1, l2, l3, l4, l5, l6, l7] L2 (aI (x + y) :: St) S := ev_go i311_573 rfl
theorem i311_574 : insAt 311 574 = some (.iaload, 1, (0, 0, 0, 0), 0) := rfl
theorem s311_574 {c : Nat → List AV → SS → Option Out} {l0 l1 l2 l3 l4 l5 l6 l7 : Option AV} {i : Int32} {o : OId} {L2 : List (Nat × AV)} {St : List AV} {S : SS} : ev c 311 574 [l0, l1, l2, l3, l4, l5, l6, l7] L2 (aI i :: aR o :: St) S = kI o i (ev c 311 575 [l0, l1, l2, l3, l4, l5, l6, l7] L2 (aI (agI S o i.toNatClampNeg) :: St) S) := ev_iaload i311_574
theorem i311_575 : insAt 311 575 = some (.invokevirtual 173, 3, (252, 2, 2, 12), 453) := rfl
theorem s311_575 {c : Nat → List AV → SS → Option Out} {l0 l1 l2 l3 l4 l5 l6 l7 : Option AV} {a0 : Int32} {a1 : Int32} {j t : Nat} {L2 : List (Nat × AV)} {S : SS} : ev c 311 575 [l0, l1, l2, l3, l4, l5, l6, l7] L2 [aI a1, aI a0, aR (12, j, t)] S = ck (c 252 [aR (12, j, t), aI a0, aI a1] S) (fun v S' => ev c 311 578 [l0, l1, l2, l3, l4, l5, l6, l7] L2 (v.toList ++ []) S') := ev_call i311_575 rfl
theorem i311_578 : insAt 311 578 = some (.istore 7, 2, (0, 0, 0, 0), 0) := rfl
theorem s311_578 {c : Nat → List AV → SS → Option Out} {l0 l1 l2 l3 l4 l5 l6 l7 : Option AV} {x : Int32} {L2 : List (Nat × AV)} {St : List AV} {S : SS} : ev c 311 578 [l0, l1, l2, l3, l4, l5, l6, l7] L2 (aI x :: St) S = ev c 311 580 [l0, l1, l2, l3, l4, l5, l6, some (aI x)] (kil L2 7) St S := ev_go i311_578 rfl
theorem i311_580 : insAt 311 580 = some (.aload_n 2, 1, (0, 0, 0, 0), 0) := rfl
theorem s311_580 {c : Nat → List AV → SS → Option Out} {l0 l1 l3 l4 l5 l6 l7 : Option AV} {o : OId} {L2 : List (Nat × AV)} {St : List AV} {S : SS} : ev c 311 580 [l0, l1, some (aR o), l3, l4, l5, l6, l7] L2 St S = ev c 311 581 [l0, l1, some (aR o), l3, l4, l5, l6, l7] L2 (aR o :: St) S := ev_go i311_580 rfl
theorem i311_581 : insAt 311 581 = some (.invokevirtual 149, 3, (215, 0, 2, 12), 441) := rfl
theorem s311_581 {c : Nat → List AV → SS → Option Out} {l0 l1 l2 l3 l4 l5 l6 l7 : Option AV} {j t : Nat} {L2 : List (Nat × AV)} {S : SS} : ev c 311 581 [l0, l1, l2, l3, l4, l5, l6, l7] L2 [aR (12, j, t)] S = ck (c 215 [aR (12, j, t)] S) (fun v S' => ev c 311 584 [l0, l1, l2, l3, l4, l5, l6, l7] L2 (v.toList ++ []) S') := ev_call i311_581 rfl
theorem i311_584 : insAt 311 584 = some (.iload 6, 2, (0, 0, 0, 0), 0) := rfl
theorem s311_584 {c : Nat → List AV → SS → Option Out} {l0 l1 l2 l3 l4 l5 l7 : Option AV} {x : Int32} {L2 : List (Nat × AV)} {St : List AV} {S : SS} : ev c 311 584 [l0, l1, l2, l3, l4, l5, some (aI x), l7] L2 St S = ev c 311 586 [l0, l1, l2, l3, l4, l5, some (aI x), l7] L2 (aI x :: St) S := ev_go i311_584 rfl
theorem i311_586 : insAt 311 586 = some (.if_icmp .eq 5, 3, (0, 0, 0, 0), 0) := rfl
theorem s311_586 {c : Nat → List AV → SS → Option Out} {l0 l1 l2 l3 l4 l5 l6 l7 : Option AV} {x y : Int32} {L2 : List (Nat × AV)} {St : List AV} {S : SS} : ev c 311 586 [l0, l1, l2, l3, l4, l5, l6, l7] L2 (aI y :: aI x :: St) S = if x = y then ev c 311 591 [l0, l1, l2, l3, l4, l5, l6, l7] L2 St S else ev c 311 589 [l0, l1, l2, l3, l4, l5, l6, l7] L2 St S := ev_br i311_586 rfl
theorem i311_589 : insAt 311 589 = some (.iconst 0, 1, (0, 0, 0, 0), 0) := rfl
theorem s311_589 {c : Nat → List AV → SS → Option Out} {l0 l1 l2 l3 l4 l5 l6 l7 : Option AV} {L2 : List (Nat × AV)} {St : List AV} {S : SS} : ev c 311 589 [l0, l1, l2, l3, l4, l5, l6, l7] L2 St S = ev c 311 590 [l0, l1, l2, l3, l4, l5, l6, l7] L2 (aI 0 :: St) S := ev_go i311_589 rfl
theorem i311_590 : insAt 311 590 = some (.ireturn, 1, (0, 0, 0, 0), 0) := rfl
theorem s311_590 {c : Nat → List AV → SS → Option Out} {l0 l1 l2 l3 l4 l5 l6 l7 : Option AV} {x : Int32} {L2 : List (Nat × AV)} {S : SS} : ev c 311 590 [l0, l1, l2, l3, l4, l5, l6, l7] L2 [aI x] S = if x = 0 ∨ x = 1 then some (.inl (some (aI x)), S) else none := ev_rt i311_590 rfl
theorem i311_591 : insAt 311 591 = some (.iload 6, 2, (0, 0, 0, 0), 0) := rfl
theorem s311_591 {c : Nat → List AV → SS → Option Out} {l0 l1 l2 l3 l4 l5 l7 : Option AV} {x : Int32} {L2 : List (Nat × AV)} {St : List AV} {S : SS} : ev c 311 591 [l0, l1, l2, l3, l4, l5, some (aI x), l7] L2 St S = ev c 311 593 [l0, l1, l2, l3, l4, l5, some (aI x), l7] L2 (aI x :: St) S := ev_go i311_591 rfl
theorem i311_593 : insAt 311 593 = some (.ifCond .ne 15, 3, (0, 0, 0, 0), 0) := rfl
theorem s311_593 {c : Nat → List AV → SS → Option Out} {l0 l1 l2 l3 l4 l5 l6 l7 : Option AV} {x : Int32} {L2 : List (Nat × AV)} {St : List AV} {S : SS} : ev c 311 593 [l0, l1, l2, l3, l4, l5, l6, l7] L2 (aI x :: St) S = if x = 0 then ev c 311 596 [l0, l1, l2, l3, l4, l5, l6, l7] L2 St S else ev c 311 608 [l0, l1, l2, l3, l4, l5, l6, l7] L2 St S := (ev_br i311_593 rfl).trans (ite_not _ _ _)
theorem i311_596 : insAt 311 596 = some (.aload_n 3, 1, (0, 0, 0, 0), 0) := rfl
theorem s311_596 {c : Nat → List AV → SS → Option Out} {l0 l1 l2 l4 l5 l6 l7 : Option AV} {o : OId} {L2 : List (Nat × AV)} {St : List AV} {S : SS} : ev c 311 596 [l0, l1, l2, some (aR o), l4, l5, l6, l7] L2 St S = ev c 311 597 [l0, l1, l2, some (aR o), l4, l5, l6, l7] L2 (aR o :: St) S := ev_go i311_596 rfl
theorem i311_597 : insAt 311 597 = some (.iconst 0, 1, (0, 0, 0, 0), 0) := rfl
theorem s311_597 {c : Nat → List AV → SS → Option Out} {l0 l1 l2 l3 l4 l5 l6 l7 : Option AV} {L2 : List (Nat × AV)} {St : List AV} {S : SS} : ev c 311 597 [l0, l1, l2, l3, l4, l5, l6, l7] L2 St S = ev c 311 598 [l0, l1, l2, l3, l4, l5, l6, l7] L2 (aI 0 :: St) S := ev_go i311_597 rfl
theorem i311_598 : insAt 311 598 = some (.laload, 1, (0, 0, 0, 0), 0) := rfl
theorem s311_598 {c : Nat → List AV → SS → Option Out} {l0 l1 l2 l3 l4 l5 l6 l7 : Option AV} {i : Int32} {o : OId} {L2 : List (Nat × AV)} {St : List AV} {S : SS} : ev c 311 598 [l0, l1, l2, l3, l4, l5, l6, l7] L2 (aI i :: aR o :: St) S = kJ o i (ev c 311 599 [l0, l1, l2, l3, l4, l5, l6, l7] L2 (aL (toL (S.2.1 o i.toNatClampNeg)) :: St) S) := ev_laload i311_598
theorem i311_599 : insAt 311 599 = some (.iload 7, 2, (0, 0, 0, 0), 0) := rfl
theorem s311_599 {c : Nat → List AV → SS → Option Out} {l0 l1 l2 l3 l4 l5 l6 : Option AV} {x : Int32} {L2 : List (Nat × AV)} {St : List AV} {S : SS} : ev c 311 599 [l0, l1, l2, l3, l4, l5, l6, some (aI x)] L2 St S = ev c 311 601 [l0, l1, l2, l3, l4, l5, l6, some (aI x)] L2 (aI x :: St) S := ev_go i311_599 rfl
theorem i311_601 : insAt 311 601 = some (.i2l, 1, (0, 0, 0, 0), 0) := rfl
theorem s311_601 {c : Nat → List AV → SS → Option Out} {l0 l1 l2 l3 l4 l5 l6 l7 : Option AV} {x : Int32} {L2 : List (Nat × AV)} {St : List AV} {S : SS} : ev c 311 601 [l0, l1, l2, l3, l4, l5, l6, l7] L2 (aI x :: St) S = ev c 311 602 [l0, l1, l2, l3, l4, l5, l6, l7] L2 (aL x.toInt64 :: St) S := ev_go i311_601 rfl
theorem i311_602 : insAt 311 602 = some (.lcmp, 1, (0, 0, 0, 0), 0) := rfl
theorem s311_602 {c : Nat → List AV → SS → Option Out} {l0 l1 l2 l3 l4 l5 l6 l7 : Option AV} {x y : Int64} {L2 : List (Nat × AV)} {St : List AV} {S : SS} : ev c 311 602 [l0, l1, l2, l3, l4, l5, l6, l7] L2 (aL y :: aL x :: St) S = ev c 311 603 [l0, l1, l2, l3, l4, l5, l6, l7] L2 (aI (if x < y then -1 else if x = y then 0 else 1) :: St) S := ev_go i311_602 rfl
theorem i311_603 : insAt 311 603 = some (.ifCond .eq 5, 3, (0, 0, 0, 0), 0) := rfl
theorem s311_603 {c : Nat → List AV → SS → Option Out} {l0 l1 l2 l3 l4 l5 l6 l7 : Option AV} {x : Int32} {L2 : List (Nat × AV)} {St : List AV} {S : SS} : ev c 311 603 [l0, l1, l2, l3, l4, l5, l6, l7] L2 (aI x :: St) S = if x = 0 then ev c 311 608 [l0, l1, l2, l3, l4, l5, l6, l7] L2 St S else ev c 311 606 [l0, l1, l2, l3, l4, l5, l6, l7] L2 St S := ev_br i311_603 rfl
theorem i311_606 : insAt 311 606 = some (.iconst 0, 1, (0, 0, 0, 0), 0) := rfl
theorem s311_606 {c : Nat → List AV → SS → Option Out} {l0 l1 l2 l3 l4 l5 l6 l7 : Option AV} {L2 : List (Nat × AV)} {St : List AV} {S : SS} : ev c 311 606 [l0, l1, l2, l3, l4, l5, l6, l7] L2 St S = ev c 311 607 [l0, l1, l2, l3, l4, l5, l6, l7] L2 (aI 0 :: St) S := ev_go i311_606 rfl
theorem i311_607 : insAt 311 607 = some (.ireturn, 1, (0, 0, 0, 0), 0) := rfl
theorem s311_607 {c : Nat → List AV → SS → Option Out} {l0 l1 l2 l3 l4 l5 l6 l7 : Option AV} {x : Int32} {L2 : List (Nat × AV)} {S : SS} : ev c 311 607 [l0, l1, l2, l3, l4, l5, l6, l7] L2 [aI x] S = if x = 0 ∨ x = 1 then some (.inl (some (aI x)), S) else none := ev_rt i311_607 rfl
theorem i311_608 : insAt 311 608 = some (.goto 2191, 3, (0, 0, 0, 0), 0) := rfl
theorem s311_608 {c : Nat → List AV → SS → Option Out} {l0 l1 l2 l3 l4 l5 l6 l7 : Option AV} {L2 : List (Nat × AV)} {St : List AV} {S : SS} : ev c 311 608 [l0, l1, l2, l3, l4, l5, l6, l7] L2 St S = ev c 311 2799 [l0, l1, l2, l3, l4, l5, l6, l7] L2 St S := ev_go i311_608 rfl
theorem i311_611 : insAt 311 611 = some (.aload_n 1, 1, (0, 0, 0, 0), 0) := rfl
theorem s311_611 {c : Nat → List AV → SS → Option Out} {l0 l2 l3 l4 l5 l6 l7 : Option AV} {o : OId} {L2 : List (Nat × AV)} {St : List AV} {S : SS} : ev c 311 611 [l0, some (aR o), l2, l3, l4, l5, l6, l7] L2 St S = ev c 311 612 [l0, some (aR o), l2, l3, l4, l5, l6, l7] L2 (aR o :: St) S := ev_go i311_611 rfl
theorem i311_612 : insAt 311 612 = some (.aload_n 0, 1, (0, 0, 0, 0), 0) := rfl
theorem s311_612 {c : Nat → List AV → SS → Option Out} {l1 l2 l3 l4 l5 l6 l7 : Option AV} {o : OId} {L2 : List (Nat × AV)} {St : List AV} {S : SS} : ev c 311 612 [some (aR o), l1, l2, l3, l4, l5, l6, l7] L2 St S = ev c 311 613 [some (aR o), l1, l2, l3, l4, l5, l6, l7] L2 (aR o :: St) S := ev_go i311_612 rfl
theorem i311_613 : insAt 311 613 = some (.iload 5, 2, (0, 0, 0, 0), 0) := rfl
theorem s311_613 {c : Nat → List AV → SS → Option Out} {l0 l1 l2 l3 l4 l6 l7 : Option AV} {x : Int32} {L2 : List (Nat × AV)} {St : List AV} {S : SS} : ev c 311 613 [l0, l1, l2, l3, l4, some (aI x), l6, l7] L2 St S = ev c 311 615 [l0, l1, l2, l3, l4, some (aI x), l6, l7] L2 (aI x :: St) S := ev_go i311_613 rfl
theorem i311_615 : insAt 311 615 = some (.iconst 1, 1, (0, 0, 0, 0), 0) := rfl
theorem s311_615 {c : Nat → List AV → SS → Option Out} {l0 l1 l2 l3 l4 l5 l6 l7 : Option AV} {L2 : List (Nat × AV)} {St : List AV} {S : SS} : ev c 311 615 [l0, l1, l2, l3, l4, l5, l6, l7] L2 St S = ev c 311 616 [l0, l1, l2, l3, l4, l5, l6, l7] L2 (aI 1 :: St) S := ev_go i311_615 rfl
theorem i311_616 : insAt 311 616 = some (.iadd, 1, (0, 0, 0, 0), 0) := rfl
theorem s311_616 {c : Nat → List AV → SS → Option Out} {l0 l1 l2 l3 l4 l5 l6 l7 : Option AV} {x y : Int32} {L2 : List (Nat × AV)} {St : List AV} {S : SS} : ev c 311 616 [l0, l1, l2, l3, l4, l5, l6, l7] L2 (aI y :: aI x :: St) S = ev c 311 617 [l0, l1, l2, l3, l4, l5, l6, l7] L2 (aI (x + y) :: St) S := ev_go i311_616 rfl
theorem i311_617 : insAt 311 617 = some (.iaload, 1, (0, 0, 0, 0), 0) := rfl
theorem s311_617 {c : Nat → List AV → SS → Option Out} {l0 l1 l2 l3 l4 l5 l6 l7 : Option AV} {i : Int32} {o : OId} {L2 : List (Nat × AV)} {St : List AV} {S : SS} : ev c 311 617 [l0, l1, l2, l3, l4, l5, l6, l7] L2 (aI i :: aR o :: St) S = kI o i (ev c 311 618 [l0, l1, l2, l3, l4, l5, l6, l7] L2 (aI (agI S o i.toNatClampNeg) :: St) S) := ev_iaload i311_617
theorem i311_618 : insAt 311 618 = some (.aload_n 0, 1, (0, 0, 0, 0), 0) := rfl
theorem s311_618 {c : Nat → List AV → SS → Option Out} {l1 l2 l3 l4 l5 l6 l7 : Option AV} {o : OId} {L2 : List (Nat × AV)} {St : List AV} {S : SS} : ev c 311 618 [some (aR o), l1, l2, l3, l4, l5, l6, l7] L2 St S = ev c 311 619 [some (aR o), l1, l2, l3, l4, l5, l6, l7] L2 (aR o :: St) S := ev_go i311_618 rfl
theorem i311_619 : insAt 311 619 = some (.iload 5, 2, (0, 0, 0, 0), 0) := rfl
theorem s311_619 {c : Nat → List AV → SS → Option Out} {l0 l1 l2 l3 l4 l6 l7 : Option AV} {x : Int32} {L2 : List (Nat × AV)} {St : List AV} {S : SS} : ev c 311 619 [l0, l1, l2, l3, l4, some (aI x), l6, l7] L2 St S = ev c 311 621 [l0, l1, l2, l3, l4, some (aI x), l6, l7] L2 (aI x :: St) S := ev_go i311_619 rfl
theorem i311_621 : insAt 311 621 = some (.iconst 2, 1, (0, 0, 0, 0), 0) := rfl
theorem s311_621 {c : Nat → List AV → SS → Option Out} {l0 l1 l2 l3 l4 l5 l6 l7 : Option AV} {L2 : List (Nat × AV)} {St : List AV} {S : SS} : ev c 311 621 [l0, l1, l2, l3, l4, l5, l6, l7] L2 St S = ev c 311 622 [l0, l1, l2, l3, l4, l5, l6, l7] L2 (aI 2 :: St) S := ev_go i311_621 rfl
theorem i311_622 : insAt 311 622 = some (.iadd, 1, (0, 0, 0, 0), 0) := rfl
theorem s311_622 {c : Nat → List AV → SS → Option Out} {l0 l1 l2 l3 l4 l5 l6 l7 : Option AV} {x y : Int32} {L2 : List (Nat × AV)} {St : List AV} {S : SS} : ev c 311 622 [l0, l1, l2, l3, l4, l5, l6, l7] L2 (aI y :: aI x :: St) S = ev c 311 623 [l0, l1, l2, l3, l4, l5, l6, l7] L2 (aI (x + y) :: St) S := ev_go i311_622 rfl
theorem i311_623 : insAt 311 623 = some (.iaload, 1, (0, 0, 0, 0), 0) := rfl
theorem s311_623 {c : Nat → List AV → SS → Option Out} {l0 l1 l2 l3 l4 l5 l6 l7 : Option AV} {i : Int32} {o : OId} {L2 : List (Nat × AV)} {St : List AV} {S : SS} : ev c 311 623 [l0, l1, l2, l3, l4, l5, l6, l7] L2 (aI i :: aR o :: St) S = kI o i (ev c 311 624 [l0, l1, l2, l3, l4, l5, l6, l7] L2 (aI (agI S o i.toNatClampNeg) :: St) S) := ev_iaload i311_623
theorem i311_624 : insAt 311 624 = some (.aload_n 3, 1, (0, 0, 0, 0), 0) := rfl
theorem s311_624 {c : Nat → List AV → SS → Option Out} {l0 l1 l2 l4 l5 l6 l7 : Option AV} {o : OId} {L2 : List (Nat × AV)} {St : List AV} {S : SS} : ev c 311 624 [l0, l1, l2, some (aR o), l4, l5, l6, l7] L2 St S = ev c 311 625 [l0, l1, l2, some (aR o), l4, l5, l6, l7] L2 (aR o :: St) S := ev_go i311_624 rfl
theorem i311_625 : insAt 311 625 = some (.invokestatic 174, 3, (91, 4, 0, 0), 454) := rfl
theorem s311_625 {c : Nat → List AV → SS → Option Out} {l0 l1 l2 l3 l4 l5 l6 l7 : Option AV} {a0 : OId} {a1 : Int32} {a2 : Int32} {a3 : OId} {L2 : List (Nat × AV)} {S : SS} : ev c 311 625 [l0, l1, l2, l3, l4, l5, l6, l7] L2 [aR a3, aI a2, aI a1, aR a0] S = ck (c 91 [aR a0, aI a1, aI a2, aR a3] S) (fun v S' => ev c 311 628 [l0, l1, l2, l3, l4, l5, l6, l7] L2 (v.toList ++ []) S') := ev_call i311_625 rfl
theorem i311_628 : insAt 311 628 = some (.istore 6, 2, (0, 0, 0, 0), 0) := rfl
theorem s311_628 {c : Nat → List AV → SS → Option Out} {l0 l1 l2 l3 l4 l5 l6 l7 : Option AV} {x : Int32} {L2 : List (Nat × AV)} {St : List AV} {S : SS} : ev c 311 628 [l0, l1, l2, l3, l4, l5, l6, l7] L2 (aI x :: St) S = ev c 311 630 [l0, l1, l2, l3, l4, l5, some (aI x), l7] (kil L2 6) St S := ev_go i311_628 rfl
theorem i311_630 : insAt 311 630 = some (.aload_n 2, 1, (0, 0, 0, 0), 0) := rfl
theorem s311_630 {c : Nat → List AV → SS → Option Out} {l0 l1 l3 l4 l5 l6 l7 : Option AV} {o : OId} {L2 : List (Nat × AV)} {St : List AV} {S : SS} : ev c 311 630 [l0, l1, some (aR o), l3, l4, l5, l6, l7] L2 St S = ev c 311 631 [l0, l1, some (aR o), l3, l4, l5, l6, l7] L2 (aR o :: St) S := ev_go i311_630 rfl
theorem i311_631 : insAt 311 631 = some (.aload_n 0, 1, (0, 0, 0, 0), 0) := rfl
theorem s311_631 {c : Nat → List AV → SS → Option Out} {l1 l2 l3 l4 l5 l6 l7 : Option AV} {o : OId} {L2 : List (Nat × AV)} {St : List AV} {S : SS} : ev c 311 631 [some (aR o), l1, l2, l3, l4, l5, l6, l7] L2 St S = ev c 311 632 [some (aR o), l1, l2, l3, l4, l5, l6, l7] L2 (aR o :: St) S := ev_go i311_631 rfl
theorem i311_632 : insAt 311 632 = some (.iload 5, 2, (0, 0, 0, 0), 0) := rfl
theorem s311_632 {c : Nat → List AV → SS → Option Out} {l0 l1 l2 l3 l4 l6 l7 : Option AV} {x : Int32} {L2 : List (Nat × AV)} {St : List AV} {S : SS} : ev c 311 632 [l0, l1, l2, l3, l4, some (aI x), l6, l7] L2 St S = ev c 311 634 [l0, l1, l2, l3, l4, some (aI x), l6, l7] L2 (aI x :: St) S := ev_go i311_632 rfl
theorem i311_634 : insAt 311 634 = some (.iconst 1, 1, (0, 0, 0, 0), 0) := rfl
theorem s311_634 {c : Nat → List AV → SS → Option Out} {l0 l1 l2 l3 l4 l5 l6 l7 : Option AV} {L2 : List (Nat × AV)} {St : List AV} {S : SS} : ev c 311 634 [l0, l1, l2, l3, l4, l5, l6, l7] L2 St S = ev c 311 635 [l0, l1, l2, l3, l4, l5, l6, l7] L2 (aI 1 :: St) S := ev_go i311_634 rfl
theorem i311_635 : insAt 311 635 = some (.iadd, 1, (0, 0, 0, 0), 0) := rfl
theorem s311_635 {c : Nat → List AV → SS → Option Out} {l0 l1 l2 l3 l4 l5 l6 l7 : Option AV} {x y : Int32} {L2 : List (Nat × AV)} {St : List AV} {S : SS} : ev c 311 635 [l0, l1, l2, l3, l4, l5, l6, l7] L2 (aI y :: aI x :: St) S = ev c 311 636 [l0, l1, l2, l3, l4, l5, l6, l7] L2 (aI (x + y) :: St) S := ev_go i311_635 rfl
theorem i311_636 : insAt 311 636 = some (.iaload, 1, (0, 0, 0, 0), 0) := rfl
theorem s311_636 {c : Nat → List AV → SS → Option Out} {l0 l1 l2 l3 l4 l5 l6 l7 : Option AV} {i : Int32} {o : OId} {L2 : List (Nat × AV)} {St : List AV} {S : SS} : ev c 311 636 [l0, l1, l2, l3, l4, l5, l6, l7] L2 (aI i :: aR o :: St) S = kI o i (ev c 311 637 [l0, l1, l2, l3, l4, l5, l6, l7] L2 (aI (agI S o i.toNatClampNeg) :: St) S) := ev_iaload i311_636
theorem i311_637 : insAt 311 637 = some (.aload_n 0, 1, (0, 0, 0, 0), 0) := rfl
theorem s311_637 {c : Nat → List AV → SS → Option Out} {l1 l2 l3 l4 l5 l6 l7 : Option AV} {o : OId} {L2 : List (Nat × AV)} {St : List AV} {S : SS} : ev c 311 637 [some (aR o), l1, l2, l3, l4, l5, l6, l7] L2 St S = ev c 311 638 [some (aR o), l1, l2, l3, l4, l5, l6, l7] L2 (aR o :: St) S := ev_go i311_637 rfl
theorem i311_638 : insAt 311 638 = some (.iload 5, 2, (0, 0, 0, 0), 0) := rfl
theorem s311_638 {c : Nat → List AV → SS → Option Out} {l0 l1 l2 l3 l4 l6 l7 : Option AV} {x : Int32} {L2 : List (Nat × AV)} {St : List AV} {S : SS} : ev c 311 638 [l0, l1, l2, l3, l4, some (aI x), l6, l7] L2 St S = ev c 311 640 [l0, l1, l2, l3, l4, some (aI x), l6, l7] L2 (aI x :: St) S := ev_go i311_638 rfl
theorem i311_640 : insAt 311 640 = some (.iconst 2, 1, (0, 0, 0, 0), 0) := rfl
theorem s311_640 {c : Nat → List AV → SS → Option Out} {l0 l1 l2 l3 l4 l5 l6 l7 : Option AV} {L2 : List (Nat × AV)} {St : List AV} {S : SS} : ev c 311 640 [l0, l1, l2, l3, l4, l5, l6, l7] L2 St S = ev c 311 641 [l0, l1, l2, l3, l4, l5, l6, l7] L2 (aI 2 :: St) S := ev_go i311_640 rfl
theorem i311_641 : insAt 311 641 = some (.iadd, 1, (0, 0, 0, 0), 0) := rfl
theorem s311_641 {c : Nat → List AV → SS → Option Out} {l0 l1 l2 l3 l4 l5 l6 l7 : Option AV} {x y : Int32} {L2 : List (Nat × AV)} {St : List AV} {S : SS} : ev c 311 641 [l0, l1, l2, l3, l4, l5, l6, l7] L2 (aI y :: aI x :: St) S = ev c 311 642 [l0, l1, l2, l3, l4, l5, l6, l7] L2 (aI (x + y) :: St) S := ev_go i311_641 rfl
theorem i311_642 : insAt 311 642 = some (.iaload, 1, (0, 0, 0, 0), 0) := rfl
theorem s311_642 {c : Nat → List AV → SS → Option Out} {l0 l1 l2 l3 l4 l5 l6 l7 : Option AV} {i : Int32} {o : OId} {L2 : List (Nat × AV)} {St : List AV} {S : SS} : ev c 311 642 [l0, l1, l2, l3, l4, l5, l6, l7] L2 (aI i :: aR o :: St) S = kI o i (ev c 311 643 [l0, l1, l2, l3, l4, l5, l6, l7] L2 (aI (agI S o i.toNatClampNeg) :: St) S) := ev_iaload i311_642
theorem i311_643 : insAt 311 643 = some (.invokevirtual 176, 3, (254, 2, 2, 12), 455) := rfl
theorem s311_643 {c : Nat → List AV → SS → Option Out} {l0 l1 l2 l3 l4 l5 l6 l7 : Option AV} {a0 : Int32} {a1 : Int32} {j t : Nat} {L2 : List (Nat × AV)} {S : SS} : ev c 311 643 [l0, l1, l2, l3, l4, l5, l6, l7] L2 [aI a1, aI a0, aR (12, j, t)] S = ck (c 254 [aR (12, j, t), aI a0, aI a1] S) (fun v S' => ev c 311 646 [l0, l1, l2, l3, l4, l5, l6, l7] L2 (v.toList ++ []) S') := ev_call i311_643 rfl
theorem i311_646 : insAt 311 646 = some (.istore 7, 2, (0, 0, 0, 0), 0) := rfl
theorem s311_646 {c : Nat → List AV → SS → Option Out} {l0 l1 l2 l3 l4 l5 l6 l7 : Option AV} {x : Int32} {L2 : List (Nat × AV)} {St : List AV} {S : SS} : ev c 311 646 [l0, l1, l2, l3, l4, l5, l6, l7] L2 (aI x :: St) S = ev c 311 648 [l0, l1, l2, l3, l4, l5, l6, some (aI x)] (kil L2 7) St S := ev_go i311_646 rfl
theorem i311_648 : insAt 311 648 = some (.aload_n 2, 1, (0, 0, 0, 0), 0) := rfl
theorem s311_648 {c : Nat → List AV → SS → Option Out} {l0 l1 l3 l4 l5 l6 l7 : Option AV} {o : OId} {L2 : List (Nat × AV)} {St : List AV} {S : SS} : ev c 311 648 [l0, l1, some (aR o), l3, l4, l5, l6, l7] L2 St S = ev c 311 649 [l0, l1, some (aR o), l3, l4, l5, l6, l7] L2 (aR o :: St) S := ev_go i311_648 rfl
theorem i311_649 : insAt 311 649 = some (.invokevirtual 149, 3, (215, 0, 2, 12), 441) := rfl
theorem s311_649 {c : Nat → List AV → SS → Option Out} {l0 l1 l2 l3 l4 l5 l6 l7 : Option AV} {j t : Nat} {L2 : List (Nat × AV)} {S : SS} : ev c 311 649 [l0, l1, l2, l3, l4, l5, l6, l7] L2 [aR (12, j, t)] S = ck (c 215 [aR (12, j, t)] S) (fun v S' => ev c 311 652 [l0, l1, l2, l3, l4, l5, l6, l7] L2 (v.toList ++ []) S') := ev_call i311_649 rfl
theorem i311_652 : insAt 311 652 = some (.iload 6, 2, (0, 0, 0, 0), 0) := rfl
theorem s311_652 {c : Nat → List AV → SS → Option Out} {l0 l1 l2 l3 l4 l5 l7 : Option AV} {x : Int32} {L2 : List (Nat × AV)} {St : List AV} {S : SS} : ev c 311 652 [l0, l1, l2, l3, l4, l5, some (aI x), l7] L2 St S = ev c 311 654 [l0, l1, l2, l3, l4, l5, some (aI x), l7] L2 (aI x :: St) S := ev_go i311_652 rfl
theorem i311_654 : insAt 311 654 = some (.if_icmp .eq 5, 3, (0, 0, 0, 0), 0) := rfl
theorem s311_654 {c : Nat → List AV → SS → Option Out} {l0 l1 l2 l3 l4 l5 l6 l7 : Option AV} {x y : Int32} {L2 : List (Nat × AV)} {St : List AV} {S : SS} : ev c 311 654 [l0, l1, l2, l3, l4, l5, l6, l7] L2 (aI y :: aI x :: St) S = if x = y then ev c 311 659 [l0, l1, l2, l3, l4, l5, l6, l7] L2 St S else ev c 311 657 [l0, l1, l2, l3, l4, l5, l6, l7] L2 St S := ev_br i311_654 rfl
theorem i311_657 : insAt 311 657 = some (.iconst 0, 1, (0, 0, 0, 0), 0) := rfl
theorem s311_657 {c : Nat → List AV → SS → Option Out} {l0 l1 l2 l3 l4 l5 l6 l7 : Option AV} {L2 : List (Nat × AV)} {St : List AV} {S : SS} : ev c 311 657 [l0, l1, l2, l3, l4, l5, l6, l7] L2 St S = ev c 311 658 [l0, l1, l2, l3, l4, l5, l6, l7] L2 (aI 0 :: St) S := ev_go i311_657 rfl
theorem i311_658 : insAt 311 658 = some (.ireturn, 1, (0, 0, 0, 0), 0) := rfl
theorem s311_658 {c : Nat → List AV → SS → Option Out} {l0 l1 l2 l3 l4 l5 l6 l7 : Option AV} {x : Int32} {L2 : List (Nat × AV)} {S : SS} : ev c 311 658 [l0, l1, l2, l3, l4, l5, l6, l7] L2 [aI x] S = if x = 0 ∨ x = 1 then some (.inl (some (aI x)), S) else none := ev_rt i311_658 rfl
theorem i311_659 : insAt 311 659 = some (.iload 6, 2, (0, 0, 0, 0), 0) := rfl
theorem s311_659 {c : Nat → List AV → SS → Option Out} {l0 l1 l2 l3 l4 l5 l7 : Option AV} {x : Int32} {L2 : List (Nat × AV)} {St : List AV} {S : SS} : ev c 311 659 [l0, l1, l2, l3, l4, l5, some (aI x), l7] L2 St S = ev c 311 661 [l0, l1, l2, l3, l4, l5, some (aI x), l7] L2 (aI x :: St) S := ev_go i311_659 rfl
theorem i311_661 : insAt 311 661 = some (.ifCond .ne 15, 3, (0, 0, 0, 0), 0) := rfl
theorem s311_661 {c : Nat → List AV → SS → Option Out} {l0 l1 l2 l3 l4 l5 l6 l7 : Option AV} {x : Int32} {L2 : List (Nat × AV)} {St : List AV} {S : SS} : ev c 311 661 [l0, l1, l2, l3, l4, l5, l6, l7] L2 (aI x :: St) S = if x = 0 then ev c 311 664 [l0, l1, l2, l3, l4, l5, l6, l7] L2 St S else ev c 311 676 [l0, l1, l2, l3, l4, l5, l6, l7] L2 St S := (ev_br i311_661 rfl).trans (ite_not _ _ _)
theorem i311_664 : insAt 311 664 = some (.aload_n 3, 1, (0, 0, 0, 0), 0) := rfl
theorem s311_664 {c : Nat → List AV → SS → Option Out} {l0 l1 l2 l4 l5 l6 l7 : Option AV} {o : OId} {L2 : List (Nat × AV)} {St : List AV} {S : SS} : ev c 311 664 [l0, l1, l2, some (aR o), l4, l5, l6, l7] L2 St S = ev c 311 665 [l0, l1, l2, some (aR o), l4, l5, l6, l7] L2 (aR o :: St) S := ev_go i311_664 rfl
theorem i311_665 : insAt 311 665 = some (.iconst 0, 1, (0, 0, 0, 0), 0) := rfl
theorem s311_665 {c : Nat → List AV → SS → Option Out} {l0 l1 l2 l3 l4 l5 l6 l7 : Option AV} {L2 : List (Nat × AV)} {St : List AV} {S : SS} : ev c 311 665 [l0, l1, l2, l3, l4, l5, l6, l7] L2 St S = ev c 311 666 [l0, l1, l2, l3, l4, l5, l6, l7] L2 (aI 0 :: St) S := ev_go i311_665 rfl
theorem i311_666 : insAt 311 666 = some (.laload, 1, (0, 0, 0, 0), 0) := rfl
theorem s311_666 {c : Nat → List AV → SS → Option Out} {l0 l1 l2 l3 l4 l5 l6 l7 : Option AV} {i : Int32} {o : OId} {L2 : List (Nat × AV)} {St : List AV} {S : SS} : ev c 311 666 [l0, l1, l2, l3, l4, l5, l6, l7] L2 (aI i :: aR o :: St) S = kJ o i (ev c 311 667 [l0, l1, l2, l3, l4, l5, l6, l7] L2 (aL (toL (S.2.1 o i.toNatClampNeg)) :: St) S) := ev_laload i311_666
theorem i311_667 : insAt 311 667 = some (.iload 7, 2, (0, 0, 0, 0), 0) := rfl
theorem s311_667 {c : Nat → List AV → SS → Option Out} {l0 l1 l2 l3 l4 l5 l6 : Option AV} {x : Int32} {L2 : List (Nat × AV)} {St : List AV} {S : SS} : ev c 311 667 [l0, l1, l2, l3, l4, l5, l6, some (aI x)] L2 St S = ev c 311 669 [l0, l1, l2, l3, l4, l5, l6, some (aI x)] L2 (aI x :: St) S := ev_go i311_667 rfl
theorem i311_669 : insAt 311 669 = some (.i2l, 1, (0, 0, 0, 0), 0) := rfl
theorem s311_669 {c : Nat → List AV → SS → Option Out} {l0 l1 l2 l3 l4 l5 l6 l7 : Option AV} {x : Int32} {L2 : List (Nat × AV)} {St : List AV} {S : SS} : ev c 311 669 [l0, l1, l2, l3, l4, l5, l6, l7] L2 (aI x :: St) S = ev c 311 670 [l0, l1, l2, l3, l4, l5, l6, l7] L2 (aL x.toInt64 :: St) S := ev_go i311_669 rfl
theorem i311_670 : insAt 311 670 = some (.lcmp, 1, (0, 0, 0, 0), 0) := rfl
theorem s311_670 {c : Nat → List AV → SS → Option Out} {l0 l1 l2 l3 l4 l5 l6 l7 : Option AV} {x y : Int64} {L2 : List (Nat × AV)} {St : List AV} {S : SS} : ev c 311 670 [l0, l1, l2, l3, l4, l5, l6, l7] L2 (aL y :: aL x :: St) S = ev c 311 671 [l0, l1, l2, l3, l4, l5, l6, l7] L2 (aI (if x < y then -1 else if x = y then 0 else 1) :: St) S := ev_go i311_670 rfl
theorem i311_671 : insAt 311 671 = some (.ifCond .eq 5, 3, (0, 0, 0, 0), 0) := rfl
theorem s311_671 {c : Nat → List AV → SS → Option Out} {l0 l1 l2 l3 l4 l5 l6 l7 : Option AV} {x : Int32} {L2 : List (Nat × AV)} {St : List AV} {S : SS} : ev c 311 671 [l0, l1, l2, l3, l4, l5, l6, l7] L2 (aI x :: St) S = if x = 0 then ev c 311 676 [l0, l1, l2, l3, l4, l5, l6, l7] L2 St S else ev c 311 674 [l0, l1, l2, l3, l4, l5, l6, l7] L2 St S := ev_br i311_671 rfl
theorem i311_674 : insAt 311 674 = some (.iconst 0, 1, (0, 0, 0, 0), 0) := rfl
theorem s311_674 {c : Nat → List AV → SS → Option Out} {l0 l1 l2 l3 l4 l5 l6 l7 : Option AV} {L2 : List (Nat × AV)} {St : List AV} {S : SS} : ev c 311 674 [l0, l1, l2, l3, l4, l5, l6, l7] L2 St S = ev c 311 675 [l0, l1, l2, l3, l4, l5, l6, l7] L2 (aI 0 :: St) S := ev_go i311_674 rfl
theorem i311_675 : insAt 311 675 = some (.ireturn, 1, (0, 0, 0, 0), 0) := rfl
theorem s311_675 {c : Nat → List AV → SS → Option Out} {l0 l1 l2 l3 l4 l5 l6 l7 : Option AV} {x : Int32} {L2 : List (Nat × AV)} {S : SS} : ev c 311 675 [l0, l1, l2, l3, l4, l5, l6, l7] L2 [aI x] S = if x = 0 ∨ x = 1 then some (.inl (some (aI x)), S) else none := ev_rt i311_675 rfl
theorem i311_676 : insAt 311 676 = some (.goto 2123, 3, (0, 0, 0, 0), 0) := rfl
theorem s311_676 {c : Nat → List AV → SS → Option Out} {l0 l1 l2 l3 l4 l5 l6 l7 : Option AV} {L2 : List (Nat × AV)} {St : List AV} {S : SS} : ev c 311 676 [l0, l1, l2, l3, l4, l5, l6, l7] L2 St S = ev c 311 2799 [l0, l1, l2, l3, l4, l5, l6, l7] L2 St S := ev_go i311_676 rfl
theorem i311_679 : insAt 311 679 = some (.aload_n 1, 1, (0, 0, 0, 0), 0) := rfl
theorem s311_679 {c : Nat → List AV → SS → Option Out} {l0 l2 l3 l4 l5 l6 l7 : Option AV} {o : OId} {L2 : List (Nat × AV)} {St : List AV} {S : SS} : ev c 311 679 [l0, some (aR o), l2, l3, l4, l5, l6, l7] L2 St S = ev c 311 680 [l0, some (aR o), l2, l3, l4, l5, l6, l7] L2 (aR o :: St) S := ev_go i311_679 rfl
theorem i311_680 : insAt 311 680 = some (.aload_n 0, 1, (0, 0, 0, 0), 0) := rfl
theorem s311_680 {c : Nat → List AV → SS → Option Out} {l1 l2 l3 l4 l5 l6 l7 : Option AV} {o : OId} {L2 : List (Nat × AV)} {St : List AV} {S : SS} : ev c 311 680 [some (aR o), l1, l2, l3, l4, l5, l6, l7] L2 St S = ev c 311 681 [some (aR o), l1, l2, l3, l4, l5, l6, l7] L2 (aR o :: St) S := ev_go i311_680 rfl
theorem i311_681 : insAt 311 681 = some (.iload 5, 2, (0, 0, 0, 0), 0) := rfl
theorem s311_681 {c : Nat → List AV → SS → Option Out} {l0 l1 l2 l3 l4 l6 l7 : Option AV} {x : Int32} {L2 : List (Nat × AV)} {St : List AV} {S : SS} : ev c 311 681 [l0, l1, l2, l3, l4, some (aI x), l6, l7] L2 St S = ev c 311 683 [l0, l1, l2, l3, l4, some (aI x), l6, l7] L2 (aI x :: St) S := ev_go i311_681 rfl
theorem i311_683 : insAt 311 683 = some (.iconst 1, 1, (0, 0, 0, 0), 0) := rfl
theorem s311_683 {c : Nat → List AV → SS → Option Out} {l0 l1 l2 l3 l4 l5 l6 l7 : Option AV} {L2 : List (Nat × AV)} {St : List AV} {S : SS} : ev c 311 683 [l0, l1, l2, l3, l4, l5, l6, l7] L2 St S = ev c 311 684 [l0, l1, l2, l3, l4, l5, l6, l7] L2 (aI 1 :: St) S := ev_go i311_683 rfl
theorem i311_684 : insAt 311 684 = some (.iadd, 1, (0, 0, 0, 0), 0) := rfl
theorem s311_684 {c : Nat → List AV → SS → Option Out} {l0 l1 l2 l3 l4 l5 l6 l7 : Option AV} {x y : Int32} {L2 : List (Nat × AV)} {St : List AV} {S : SS} : ev c 311 684 [l0, l1, l2, l3, l4, l5, l6, l7] L2 (aI y :: aI x :: St) S = ev c 311 685 [l0, l1, l2, l3, l4, l5, l6, l7] L2 (aI (x + y) :: St) S := ev_go i311_684 rfl
theorem i311_685 : insAt 311 685 = some (.iaload, 1, (0, 0, 0, 0), 0) := rfl
theorem s311_685 {c : Nat → List AV → SS → Option Out} {l0 l1 l2 l3 l4 l5 l6 l7 : Option AV} {i : Int32} {o : OId} {L2 : List (Nat × AV)} {St : List AV} {S : SS} : ev c 311 685 [l0, l1, l2, l3, l4, l5, l6, l7] L2 (aI i :: aR o :: St) S = kI o i (ev c 311 686 [l0, l1, l2, l3, l4, l5, l6, l7] L2 (aI (agI S o i.toNatClampNeg) :: St) S) := ev_iaload i311_685
theorem i311_686 : insAt 311 686 = some (.aload_n 3, 1, (0, 0, 0, 0), 0) := rfl
theorem s311_686 {c : Nat → List AV → SS → Option Out} {l0 l1 l2 l4 l5 l6 l7 : Option AV} {o : OId} {L2 : List (Nat × AV)} {St : List AV} {S : SS} : ev c 311 686 [l0, l1, l2, some (aR o), l4, l5, l6, l7] L2 St S = ev c 311 687 [l0, l1, l2, some (aR o), l4, l5, l6, l7] L2 (aR o :: St) S := ev_go i311_686 rfl
theorem i311_687 : insAt 311 687 = some (.invokestatic 177, 3, (94, 3, 0, 0), 456) := rfl
theorem s311_687 {c : Nat → List AV → SS → Option Out} {l0 l1 l2 l3 l4 l5 l6 l7 : Option AV} {a0 : OId} {a1 : Int32} {a2 : OId} {L2 : List (Nat × AV)} {S : SS} : ev c 311 687 [l0, l1, l2, l3, l4, l5, l6, l7] L2 [aR a2, aI a1, aR a0] S = ck (c 94 [aR a0, aI a1, aR a2] S) (fun v S' => ev c 311 690 [l0, l1, l2, l3, l4, l5, l6, l7] L2 (v.toList ++ []) S') := ev_call i311_687 rfl
theorem i311_690 : insAt 311 690 = some (.istore 6, 2, (0, 0, 0, 0), 0) := rfl
theorem s311_690 {c : Nat → List AV → SS → Option Out} {l0 l1 l2 l3 l4 l5 l6 l7 : Option AV} {x : Int32} {L2 : List (Nat × AV)} {St : List AV} {S : SS} : ev c 311 690 [l0, l1, l2, l3, l4, l5, l6, l7] L2 (aI x :: St) S = ev c 311 692 [l0, l1, l2, l3, l4, l5, some (aI x), l7] (kil L2 6) St S := ev_go i311_690 rfl
theorem i311_692 : insAt 311 692 = some (.aload_n 2, 1, (0, 0, 0, 0), 0) := rfl
theorem s311_692 {c : Nat → List AV → SS → Option Out} {l0 l1 l3 l4 l5 l6 l7 : Option AV} {o : OId} {L2 : List (Nat × AV)} {St : List AV} {S : SS} : ev c 311 692 [l0, l1, some (aR o), l3, l4, l5, l6, l7] L2 St S = ev c 311 693 [l0, l1, some (aR o), l3, l4, l5, l6, l7] L2 (aR o :: St) S := ev_go i311_692 rfl
theorem i311_693 : insAt 311 693 = some (.aload_n 0, 1, (0, 0, 0, 0), 0) := rfl
theorem s311_693 {c : Nat → List AV → SS → Option Out} {l1 l2 l3 l4 l5 l6 l7 : Option AV} {o : OId} {L2 : List (Nat × AV)} {St : List AV} {S : SS} : ev c 311 693 [some (aR o), l1, l2, l3, l4, l5, l6, l7] L2 St S = ev c 311 694 [some (aR o), l1, l2, l3, l4, l5, l6, l7] L2 (aR o :: St) S := ev_go i311_693 rfl
theorem i311_694 : insAt 311 694 = some (.iload 5, 2, (0, 0, 0, 0), 0) := rfl
theorem s311_694 {c : Nat → List AV → SS → Option Out} {l0 l1 l2 l3 l4 l6 l7 : Option AV} {x : Int32} {L2 : List (Nat × AV)} {St : List AV} {S : SS} : ev c 311 694 [l0, l1, l2, l3, l4, some (aI x), l6, l7] L2 St S = ev c 311 696 [l0, l1, l2, l3, l4, some (aI x), l6, l7] L2 (aI x :: St) S := ev_go i311_694 rfl
theorem i311_696 : insAt 311 696 = some (.iconst 1, 1, (0, 0, 0, 0), 0) := rfl
theorem s311_696 {c : Nat → List AV → SS → Option Out} {l0 l1 l2 l3 l4 l5 l6 l7 : Option AV} {L2 : List (Nat × AV)} {St : List AV} {S : SS} : ev c 311 696 [l0, l1, l2, l3, l4, l5, l6, l7] L2 St S = ev c 311 697 [l0, l1, l2, l3, l4, l5, l6, l7] L2 (aI 1 :: St) S := ev_go i311_696 rfl
theorem i311_697 : insAt 311 697 = some (.iadd, 1, (0, 0, 0, 0), 0) := rfl
theorem s311_697 {c : Nat → List AV → SS → Option Out} {l0 l1 l2 l3 l4 l5 l6 l7 : Option AV} {x y : Int32} {L2 : List (Nat × AV)} {St : List AV} {S : SS} : ev c 311 697 [l0, l1, l2, l3, l4, l5, l6, l7] L2 (aI y :: aI x :: St) S = ev c 311 698 [l0, l1, l2, l3, l4, l5, l6, l7] L2 (aI (x + y) :: St) S := ev_go i311_697 rfl
theorem i311_698 : insAt 311 698 = some (.iaload, 1, (0, 0, 0, 0), 0) := rfl
theorem s311_698 {c : Nat → List AV → SS → Option Out} {l0 l1 l2 l3 l4 l5 l6 l7 : Option AV} {i : Int32} {o : OId} {L2 : List (Nat × AV)} {St : List AV} {S : SS} : ev c 311 698 [l0, l1, l2, l3, l4, l5, l6, l7] L2 (aI i :: aR o :: St) S = kI o i (ev c 311 699 [l0, l1, l2, l3, l4, l5, l6, l7] L2 (aI (agI S o i.toNatClampNeg) :: St) S) := ev_iaload i311_698
theorem i311_699 : insAt 311 699 = some (.invokevirtual 180, 3, (255, 1, 2, 12), 457) := rfl
theorem s311_699 {c : Nat → List AV → SS → Option Out} {l0 l1 l2 l3 l4 l5 l6 l7 : Option AV} {a0 : Int32} {j t : Nat} {L2 : List (Nat × AV)} {S : SS} : ev c 311 699 [l0, l1, l2, l3, l4, l5, l6, l7] L2 [aI a0, aR (12, j, t)] S = ck (c 255 [aR (12, j, t), aI a0] S) (fun v S' => ev c 311 702 [l0, l1, l2, l3, l4, l5, l6, l7] L2 (v.toList ++ []) S') := ev_call i311_699 rfl
theorem i311_702 : insAt 311 702 = some (.istore 7, 2, (0, 0, 0, 0), 0) := rfl
theorem s311_702 {c : Nat → List AV → SS → Option Out} {l0 l1 l2 l3 l4 l5 l6 l7 : Option AV} {x : Int32} {L2 : List (Nat × AV)} {St : List AV} {S : SS} : ev c 311 702 [l0, l1, l2, l3, l4, l5, l6, l7] L2 (aI x :: St) S = ev c 311 704 [l0, l1, l2, l3, l4, l5, l6, some (aI x)] (kil L2 7) St S := ev_go i311_702 rfl
theorem i311_704 : insAt 311 704 = some (.aload_n 2, 1, (0, 0, 0, 0), 0) := rfl
theorem s311_704 {c : Nat → List AV → SS → Option Out} {l0 l1 l3 l4 l5 l6 l7 : Option AV} {o : OId} {L2 : List (Nat × AV)} {St : List AV} {S : SS} : ev c 311 704 [l0, l1, some (aR o), l3, l4, l5, l6, l7] L2 St S = ev c 311 705 [l0, l1, some (aR o), l3, l4, l5, l6, l7] L2 (aR o :: St) S := ev_go i311_704 rfl
theorem i311_705 : insAt 311 705 = some (.invokevirtual 149, 3, (215, 0, 2, 12), 441) := rfl
theorem s311_705 {c : Nat → List AV → SS → Option Out} {l0 l1 l2 l3 l4 l5 l6 l7 : Option AV} {j t : Nat} {L2 : List (Nat × AV)} {S : SS} : ev c 311 705 [l0, l1, l2, l3, l4, l5, l6, l7] L2 [aR (12, j, t)] S = ck (c 215 [aR (12, j, t)] S) (fun v S' => ev c 311 708 [l0, l1, l2, l3, l4, l5, l6, l7] L2 (v.toList ++ []) S') := ev_call i311_705 rfl
theorem i311_708 : insAt 311 708 = some (.iload 6, 2, (0, 0, 0, 0), 0) := rfl
theorem s311_708 {c : Nat → List AV → SS → Option Out} {l0 l1 l2 l3 l4 l5 l7 : Option AV} {x : Int32} {L2 : List (Nat × AV)} {St : List AV} {S : SS} : ev c 311 708 [l0, l1, l2, l3, l4, l5, some (aI x), l7] L2 St S = ev c 311 710 [l0, l1, l2, l3, l4, l5, some (aI x), l7] L2 (aI x :: St) S := ev_go i311_708 rfl
theorem i311_710 : insAt 311 710 = some (.if_icmp .eq 5, 3, (0, 0, 0, 0), 0) := rfl
theorem s311_710 {c : Nat → List AV → SS → Option Out} {l0 l1 l2 l3 l4 l5 l6 l7 : Option AV} {x y : Int32} {L2 : List (Nat × AV)} {St : List AV} {S : SS} : ev c 311 710 [l0, l1, l2, l3, l4, l5, l6, l7] L2 (aI y :: aI x :: St) S = if x = y then ev c 311 715 [l0, l1, l2, l3, l4, l5, l6, l7] L2 St S else ev c 311 713 [l0, l1, l2, l3, l4, l5, l6, l7] L2 St S := ev_br i311_710 rfl
theorem i311_713 : insAt 311 713 = some (.iconst 0, 1, (0, 0, 0, 0), 0) := rfl
theorem s311_713 {c : Nat → List AV → SS → Option Out} {l0 l1 l2 l3 l4 l5 l6 l7 : Option AV} {L2 : List (Nat × AV)} {St : List AV} {S : SS} : ev c 311 713 [l0, l1, l2, l3, l4, l5, l6, l7] L2 St S = ev c 311 714 [l0, l1, l2, l3, l4, l5, l6, l7] L2 (aI 0 :: St) S := ev_go i311_713 rfl
theorem i311_714 : insAt 311 714 = some (.ireturn, 1, (0, 0, 0, 0), 0) := rfl
theorem s311_714 {c : Nat → List AV → SS → Option Out} {l0 l1 l2 l3 l4 l5 l6 l7 : Option AV} {x : Int32} {L2 : List (Nat × AV)} {S : SS} : ev c 311 714 [l0, l1, l2, l3, l4, l5, l6, l7] L2 [aI x] S = if x = 0 ∨ x = 1 then some (.inl (some (aI x)), S) else none := ev_rt i311_714 rfl
theorem i311_715 : insAt 311 715 = some (.iload 6, 2, (0, 0, 0, 0), 0) := rfl
theorem s311_715 {c : Nat → List AV → SS → Option Out} {l0 l1 l2 l3 l4 l5 l7 : Option AV} {x : Int32} {L2 : List (Nat × AV)} {St : List AV} {S : SS} : ev c 311 715 [l0, l1, l2, l3, l4, l5, some (aI x), l7] L2 St S = ev c 311 717 [l0, l1, l2, l3, l4, l5, some (aI x), l7] L2 (aI x :: St) S := ev_go i311_715 rfl
theorem i311_717 : insAt 311 717 = some (.ifCond .ne 15, 3, (0, 0, 0, 0), 0) := rfl
theorem s311_717 {c : Nat → List AV → SS → Option Out} {l0 l1 l2 l3 l4 l5 l6 l7 : Option AV} {x : Int32} {L2 : List (Nat × AV)} {St : List AV} {S : SS} : ev c 311 717 [l0, l1, l2, l3, l4, l5, l6, l7] L2 (aI x :: St) S = if x = 0 then ev c 311 720 [l0, l1, l2, l3, l4, l5, l6, l7] L2 St S else ev c 311 732 [l0, l1, l2, l3, l4, l5, l6, l7] L2 St S := (ev_br i311_717 rfl).trans (ite_not _ _ _)
theorem i311_720 : insAt 311 720 = some (.aload_n 3, 1, (0, 0, 0, 0), 0) := rfl
theorem s311_720 {c : Nat → List AV → SS → Option Out} {l0 l1 l2 l4 l5 l6 l7 : Option AV} {o : OId} {L2 : List (Nat × AV)} {St : List AV} {S : SS} : ev c 311 720 [l0, l1, l2, some (aR o), l4, l5, l6, l7] L2 St S = ev c 311 721 [l0, l1, l2, some (aR o), l4, l5, l6, l7] L2 (aR o :: St) S := ev_go i311_720 rfl
theorem i311_721 : insAt 311 721 = some (.iconst 0, 1, (0, 0, 0, 0), 0) := rfl
theorem s311_721 {c : Nat → List AV → SS → Option Out} {l0 l1 l2 l3 l4 l5 l6 l7 : Option AV} {L2 : List (Nat × AV)} {St : List AV} {S : SS} : ev c 311 721 [l0, l1, l2, l3, l4, l5, l6, l7] L2 St S = ev c 311 722 [l0, l1, l2, l3, l4, l5, l6, l7] L2 (aI 0 :: St) S := ev_go i311_721 rfl
theorem i311_722 : insAt 311 722 = some (.laload, 1, (0, 0, 0, 0), 0) := rfl
theorem s311_722 {c : Nat → List AV → SS → Option Out} {l0 l1 l2 l3 l4 l5 l6 l7 : Option AV} {i : Int32} {o : OId} {L2 : List (Nat × AV)} {St : List AV} {S : SS} : ev c 311 722 [l0, l1, l2, l3, l4, l5, l6, l7] L2 (aI i :: aR o :: St) S = kJ o i (ev c 311 723 [l0, l1, l2, l3, l4, l5, l6, l7] L2 (aL (toL (S.2.1 o i.toNatClampNeg)) :: St) S) := ev_laload i311_722
theorem i311_723 : insAt 311 723 = some (.iload 7, 2, (0, 0, 0, 0), 0) := rfl
theorem s311_723 {c : Nat → List AV → SS → Option Out} {l0 l1 l2 l3 l4 l5 l6 : Option AV} {x : Int32} {L2 : List (Nat × AV)} {St : List AV} {S : SS} : ev c 311 723 [l0, l1, l2, l3, l4, l5, l6, some (aI x)] L2 St S = ev c 311 725 [l0, l1, l2, l3, l4, l5, l6, some (aI x)] L2 (aI x :: St) S := ev_go i311_723 rfl
theorem i311_725 : insAt 311 725 = some (.i2l, 1, (0, 0, 0, 0), 0) := rfl
theorem s311_725 {c : Nat → List AV → SS → Option Out} {l0 l1 l2 l3 l4 l5 l6 l7 : Option AV} {x : Int32} {L2 : List (Nat × AV)} {St : List AV} {S : SS} : ev c 311 725 [l0, l1, l2, l3, l4, l5, l6, l7] L2 (aI x :: St) S = ev c 311 726 [l0, l1, l2, l3, l4, l5, l6, l7] L2 (aL x.toInt64 :: St) S := ev_go i311_725 rfl
theorem i311_726 : insAt 311 726 = some (.lcmp, 1, (0, 0, 0, 0), 0) := rfl
theorem s311_726 {c : Nat → List AV → SS → Option Out} {l0 l1 l2 l3 l4 l5 l6 l7 : Option AV} {x y : Int64} {L2 : List (Nat × AV)} {St : List AV} {S : SS} : ev c 311 726 [l0, l1, l2, l3, l4, l5, l6, l7] L2 (aL y :: aL x :: St) S = ev c 311 727 [l0, l1, l2, l3, l4, l5, l6, l7] L2 (aI (if x < y then -1 else if x = y then 0 else 1) :: St) S := ev_go i311_726 rfl
theorem i311_727 : insAt 311 727 = some (.ifCond .eq 5, 3, (0, 0, 0, 0), 0) := rfl
theorem s311_727 {c : Nat → List AV → SS → Option Out} {l0 l1 l2 l3 l4 l5 l6 l7 : Option AV} {x : Int32} {L2 : List (Nat × AV)} {St : List AV} {S : SS} : ev c 311 727 [l0, l1, l2, l3, l4, l5, l6, l7] L2 (aI x :: St) S = if x = 0 then ev c 311 732 [l0, l1, l2, l3, l4, l5, l6, l7] L2 St S else ev c 311 730 [l0, l1, l2, l3, l4, l5, l6, l7] L2 St S := ev_br i311_727 rfl
theorem i311_730 : insAt 311 730 = some (.iconst 0, 1, (0, 0, 0, 0), 0) := rfl
theorem s311_730 {c : Nat → List AV → SS → Option Out} {l0 l1 l2 l3 l4 l5 l6 l7 : Option AV} {L2 : List (Nat × AV)} {St : List AV} {S : SS} : ev c 311 730 [l0, l1, l2, l3, l4, l5, l6, l7] L2 St S = ev c 311 731 [l0, l1, l2, l3, l4, l5, l6, l7] L2 (aI 0 :: St) S := ev_go i311_730 rfl
theorem i311_731 : insAt 311 731 = some (.ireturn, 1, (0, 0, 0, 0), 0) := rfl
theorem s311_731 {c : Nat → List AV → SS → Option Out} {l0 l1 l2 l3 l4 l5 l6 l7 : Option AV} {x : Int32} {L2 : List (Nat × AV)} {S : SS} : ev c 311 731 [l0, l1, l2, l3, l4, l5, l6, l7] L2 [aI x] S = if x = 0 ∨ x = 1 then some (.inl (some (aI x)), S) else none := ev_rt i311_731 rfl
theorem i311_732 : insAt 311 732 = some (.goto 2067, 3, (0, 0, 0, 0), 0) := rfl
theorem s311_732 {c : Nat → List AV → SS → Option Out} {l0 l1 l2 l3 l4 l5 l6 l7 : Option AV} {L2 : List (Nat × AV)} {St : List AV} {S : SS} : ev c 311 732 [l0, l1, l2, l3, l4, l5, l6, l7] L2 St S = ev c 311 2799 [l0, l1, l2, l3, l4, l5, l6, l7] L2 St S := ev_go i311_732 rfl
theorem i311_735 : insAt 311 735 = some (.aload_n 1, 1, (0, 0, 0, 0), 0) := rfl
theorem s311_735 {c : Nat → List AV → SS → Option Out} {l0 l2 l3 l4 l5 l6 l7 : Option AV} {o : OId} {L2 : List (Nat × AV)} {St : List AV} {S : SS} : ev c 311 735 [l0, some (aR o), l2, l3, l4, l5, l6, l7] L2 St S = ev c 311 736 [l0, some (aR o), l2, l3, l4, l5, l6, l7] L2 (aR o :: St) S := ev_go i311_735 rfl
theorem i311_736 : insAt 311 736 = some (.aload_n 0, 1, (0, 0, 0, 0), 0) := rfl
theorem s311_736 {c : Nat → List AV → SS → Option Out} {l1 l2 l3 l4 l5 l6 l7 : Option AV} {o : OId} {L2 : List (Nat × AV)} {St : List AV} {S : SS} : ev c 311 736 [some (aR o), l1, l2, l3, l4, l5, l6, l7] L2 St S = ev c 311 737 [some (aR o), l1, l2, l3, l4, l5, l6, l7] L2 (aR o :: St) S := ev_go i311_736 rfl
theorem i311_737 : insAt 311 737 = some (.iload 5, 2, (0, 0, 0, 0), 0) := rfl
theorem s311_737 {c : Nat → List AV → SS → Option Out} {l0 l1 l2 l3 l4 l6 l7 : Option AV} {x : Int32} {L2 : List (Nat × AV)} {St : List AV} {S : SS} : ev c 311 737 [l0, l1, l2, l3, l4, some (aI x), l6, l7] L2 St S = ev c 311 739 [l0, l1, l2, l3, l4, some (aI x), l6, l7] L2 (aI x :: St) S := ev_go i311_737 rfl
theorem i311_739 : insAt 311 739 = some (.iconst 1, 1, (0, 0, 0, 0), 0) := rfl
theorem s311_739 {c : Nat → List AV → SS → Option Out} {l0 l1 l2 l3 l4 l5 l6 l7 : Option AV} {L2 : List (Nat × AV)} {St : List AV} {S : SS} : ev c 311 739 [l0, l1, l2, l3, l4, l5, l6, l7] L2 St S = ev c 311 740 [l0, l1, l2, l3, l4, l5, l6, l7] L2 (aI 1 :: St) S := ev_go i311_739 rfl
theorem i311_740 : insAt 311 740 = some (.iadd, 1, (0, 0, 0, 0), 0) := rfl
theorem s311_740 {c : Nat → List AV → SS → Option Out} {l0 l1 l2 l3 l4 l5 l6 l7 : Option AV} {x y : Int32} {L2 : List (Nat × AV)} {St : List AV} {S : SS} : ev c 311 740 [l0, l1, l2, l3, l4, l5, l6, l7] L2 (aI y :: aI x :: St) S = ev c 311 741 [l0, l1, l2, l3, l4, l5, l6, l7] L2 (aI (x + y) :: St) S := ev_go i311_740 rfl
theorem i311_741 : insAt 311 741 = some (.iaload, 1, (0, 0, 0, 0), 0) := rfl
theorem s311_741 {c : Nat → List AV → SS → Option Out} {l0 l1 l2 l3 l4 l5 l6 l7 : Option AV} {i : Int32} {o : OId} {L2 : List (Nat × AV)} {St : List AV} {S : SS} : ev c 311 741 [l0, l1, l2, l3, l4, l5, l6, l7] L2 (aI i :: aR o :: St) S = kI o i (ev c 311 742 [l0, l1, l2, l3, l4, l5, l6, l7] L2 (aI (agI S o i.toNatClampNeg) :: St) S) := ev_iaload i311_741
theorem i311_742 : insAt 311 742 = some (.aload_n 3, 1, (0, 0, 0, 0), 0) := rfl
theorem s311_742 {c : Nat → List AV → SS → Option Out} {l0 l1 l2 l4 l5 l6 l7 : Option AV} {o : OId} {L2 : List (Nat × AV)} {St : List AV} {S : SS} : ev c 311 742 [l0, l1, l2, some (aR o), l4, l5, l6, l7] L2 St S = ev c 311 743 [l0, l1, l2, some (aR o), l4, l5, l6, l7] L2 (aR o :: St) S := ev_go i311_742 rfl
theorem i311_743 : insAt 311 743 = some (.invokestatic 181, 3, (96, 3, 0, 0), 458) := rfl
theorem s311_743 {c : Nat → List AV → SS → Option Out} {l0 l1 l2 l3 l4 l5 l6 l7 : Option AV} {a0 : OId} {a1 : Int32} {a2 : OId} {L2 : List (Nat × AV)} {S : SS} : ev c 311 743 [l0, l1, l2, l3, l4, l5, l6, l7] L2 [aR a2, aI a1, aR a0] S = ck (c 96 [aR a0, aI a1, aR a2] S) (fun v S' => ev c 311 746 [l0, l1, l2, l3, l4, l5, l6, l7] L2 (v.toList ++ []) S') := ev_call i311_743 rfl
theorem i311_746 : insAt 311 746 = some (.istore 6, 2, (0, 0, 0, 0), 0) := rfl
theorem s311_746 {c : Nat → List AV → SS → Option Out} {l0 l1 l2 l3 l4 l5 l6 l7 : Option AV} {x : Int32} {L2 : List (Nat × AV)} {St : List AV} {S : SS} : ev c 311 746 [l0, l1, l2, l3, l4, l5, l6, l7] L2 (aI x :: St) S = ev c 311 748 [l0, l1, l2, l3, l4, l5, some (aI x), l7] (kil L2 6) St S := ev_go i311_746 rfl
theorem i311_748 : insAt 311 748 = some (.aload_n 2, 1, (0, 0, 0, 0), 0) := rfl
theorem s311_748 {c : Nat → List AV → SS → Option Out} {l0 l1 l3 l4 l5 l6 l7 : Option AV} {o : OId} {L2 : List (Nat × AV)} {St : List AV} {S : SS} : ev c 311 748 [l0, l1, some (aR o), l3, l4, l5, l6, l7] L2 St S = ev c 311 749 [l0, l1, some (aR o), l3, l4, l5, l6, l7] L2 (aR o :: St) S := ev_go i311_748 rfl
theorem i311_749 : insAt 311 749 = some (.aload_n 0, 1, (0, 0, 0, 0), 0) := rfl
theorem s311_749 {c : Nat → List AV → SS → Option Out} {l1 l2 l3 l4 l5 l6 l7 : Option AV} {o : OId} {L2 : List (Nat × AV)} {St : List AV} {S : SS} : ev c 311 749 [some (aR o), l1, l2, l3, l4, l5, l6, l7] L2 St S = ev c 311 750 [some (aR o), l1, l2, l3, l4, l5, l6, l7] L2 (aR o :: St) S := ev_go i311_749 rfl
theorem i311_750 : insAt 311 750 = some (.iload 5, 2, (0, 0, 0, 0), 0) := rfl
theorem s311_750 {c : Nat → List AV → SS → Option Out} {l0 l1 l2 l3 l4 l6 l7 : Option AV} {x : Int32} {L2 : List (Nat × AV)} {St : List AV} {S : SS} : ev c 311 750 [l0, l1, l2, l3, l4, some (aI x), l6, l7] L2 St S = ev c 311 752 [l0, l1, l2, l3, l4, some (aI x), l6, l7] L2 (aI x :: St) S := ev_go i311_750 rfl
theorem i311_752 : insAt 311 752 = some (.iconst 1, 1, (0, 0, 0, 0), 0) := rfl
theorem s311_752 {c : Nat → List AV → SS → Option Out} {l0 l1 l2 l3 l4 l5 l6 l7 : Option AV} {L2 : List (Nat × AV)} {St : List AV} {S : SS} : ev c 311 752 [l0, l1, l2, l3, l4, l5, l6, l7] L2 St S = ev c 311 753 [l0, l1, l2, l3, l4, l5, l6, l7] L2 (aI 1 :: St) S := ev_go i311_752 rfl
theorem i311_753 : insAt 311 753 = some (.iadd, 1, (0, 0, 0, 0), 0) := rfl
theorem s311_753 {c : Nat → List AV → SS → Option Out} {l0 l1 l2 l3 l4 l5 l6 l7 : Option AV} {x y : Int32} {L2 : List (Nat × AV)} {St : List AV} {S : SS} : ev c 311 753 [l0, l1, l2, l3, l4, l5, l6, l7] L2 (aI y :: aI x :: St) S = ev c 311 754 [l0, l1, l2, l3, l4, l5, l6, l7] L2 (aI (x + y) :: St) S := ev_go i311_753 rfl
theorem i311_754 : insAt 311 754 = some (.iaload, 1, (0, 0, 0, 0), 0) := rfl
theorem s311_754 {c : Nat → List AV → SS → Option Out} {l0 l1 l2 l3 l4 l5 l6 l7 : Option AV} {i : Int32} {o : OId} {L2 : List (Nat × AV)} {St : List AV} {S : SS} : ev c 311 754 [l0, l1, l2, l3, l4, l5, l6, l7] L2 (aI i :: aR o :: St) S = kI o i (ev c 311 755 [l0, l1, l2, l3, l4, l5, l6, l7] L2 (aI (agI S o i.toNatClampNeg) :: St) S) := ev_iaload i311_754
theorem i311_755 : insAt 311 755 = some (.invokevirtual 183, 3, (257, 1, 2, 12), 459) := rfl
theorem s311_755 {c : Nat → List AV → SS → Option Out} {l0 l1 l2 l3 l4 l5 l6 l7 : Option AV} {a0 : Int32} {j t : Nat} {L2 : List (Nat × AV)} {S : SS} : ev c 311 755 [l0, l1, l2, l3, l4, l5, l6, l7] L2 [aI a0, aR (12, j, t)] S = ck (c 257 [aR (12, j, t), aI a0] S) (fun v S' => ev c 311 758 [l0, l1, l2, l3, l4, l5, l6, l7] L2 (v.toList ++ []) S') := ev_call i311_755 rfl
theorem i311_758 : insAt 311 758 = some (.istore 7, 2, (0, 0, 0, 0), 0) := rfl
theorem s311_758 {c : Nat → List AV → SS → Option Out} {l0 l1 l2 l3 l4 l5 l6 l7 : Option AV} {x : Int32} {L2 : List (Nat × AV)} {St : List AV} {S : SS} : ev c 311 758 [l0, l1, l2, l3, l4, l5, l6, l7] L2 (aI x :: St) S = ev c 311 760 [l0, l1, l2, l3, l4, l5, l6, some (aI x)] (kil L2 7) St S := ev_go i311_758 rfl
theorem i311_760 : insAt 311 760 = some (.aload_n 2, 1, (0, 0, 0, 0), 0) := rfl
theorem s311_760 {c : Nat → List AV → SS → Option Out} {l0 l1 l3 l4 l5 l6 l7 : Option AV} {o : OId} {L2 : List (Nat × AV)} {St : List AV} {S : SS} : ev c 311 760 [l0, l1, some (aR o), l3, l4, l5, l6, l7] L2 St S = ev c 311 761 [l0, l1, some (aR o), l3, l4, l5, l6, l7] L2 (aR o :: St) S := ev_go i311_760 rfl
theorem i311_761 : insAt 311 761 = some (.invokevirtual 149, 3, (215, 0, 2, 12), 441) := rfl
theorem s311_761 {c : Nat → List AV → SS → Option Out} {l0 l1 l2 l3 l4 l5 l6 l7 : Option AV} {j t : Nat} {L2 : List (Nat × AV)} {S : SS} : ev c 311 761 [l0, l1, l2, l3, l4, l5, l6, l7] L2 [aR (12, j, t)] S = ck (c 215 [aR (12, j, t)] S) (fun v S' => ev c 311 764 [l0, l1, l2, l3, l4, l5, l6, l7] L2 (v.toList ++ []) S') := ev_call i311_761 rfl
theorem i311_764 : insAt 311 764 = some (.iload 6, 2, (0, 0, 0, 0), 0) := rfl
theorem s311_764 {c : Nat → List AV → SS → Option Out} {l0 l1 l2 l3 l4 l5 l7 : Option AV} {x : Int32} {L2 : List (Nat × AV)} {St : List AV} {S : SS} : ev c 311 764 [l0, l1, l2, l3, l4, l5, some (aI x), l7] L2 St S = ev c 311 766 [l0, l1, l2, l3, l4, l5, some (aI x), l7] L2 (aI x :: St) S := ev_go i311_764 rfl
theorem i311_766 : insAt 311 766 = some (.if_icmp .eq 5, 3, (0, 0, 0, 0), 0) := rfl
theorem s311_766 {c : Nat → List AV → SS → Option Out} {l0 l1 l2 l3 l4 l5 l6 l7 : Option AV} {x y : Int32} {L2 : List (Nat × AV)} {St : List AV} {S : SS} : ev c 311 766 [l0, l1, l2, l3, l4, l5, l6, l7] L2 (aI y :: aI x :: St) S = if x = y then ev c 311 771 [l0, l1, l2, l3, l4, l5, l6, l7] L2 St S else ev c 311 769 [l0, l1, l2, l3, l4, l5, l6, l7] L2 St S := ev_br i311_766 rfl
theorem i311_769 : insAt 311 769 = some (.iconst 0, 1, (0, 0, 0, 0), 0) := rfl
theorem s311_769 {c : Nat → List AV → SS → Option Out} {l0 l1 l2 l3 l4 l5 l6 l7 : Option AV} {L2 : List (Nat × AV)} {St : List AV} {S : SS} : ev c 311 769 [l0, l1, l2, l3, l4, l5, l6, l7] L2 St S = ev c 311 770 [l0, l1, l2, l3, l4, l5, l6, l7] L2 (aI 0 :: St) S := ev_go i311_769 rfl
theorem i311_770 : insAt 311 770 = some (.ireturn, 1, (0, 0, 0, 0), 0) := rfl
theorem s311_770 {c : Nat → List AV → SS → Option Out} {l0 l1 l2 l3 l4 l5 l6 l7 : Option AV} {x : Int32} {L2 : List (Nat × AV)} {S : SS} : ev c 311 770 [l0, l1, l2, l3, l4, l5, l6, l7] L2 [aI x] S = if x = 0 ∨ x = 1 then some (.inl (some (aI x)), S) else none := ev_rt i311_770 rfl
theorem i311_771 : insAt 311 771 = some (.iload 6, 2, (0, 0, 0, 0), 0) := rfl
theorem s311_771 {c : Nat → List AV → SS → Option Out} {l0 l1 l2 l3 l4 l5 l7 : Option AV} {x : Int32} {L2 : List (Nat × AV)} {St : List AV} {S : SS} : ev c 311 771 [l0, l1, l2, l3, l4, l5, some (aI x), l7] L2 St S = ev c 311 773 [l0, l1, l2, l3, l4, l5, some (aI x), l7] L2 (aI x :: St) S := ev_go i311_771 rfl
theorem i311_773 : insAt 311 773 = some (.ifCond .ne 15, 3, (0, 0, 0, 0), 0) := rfl
theorem s311_773 {c : Nat → List AV → SS → Option Out} {l0 l1 l2 l3 l4 l5 l6 l7 : Option AV} {x : Int32} {L2 : List (Nat × AV)} {St : List AV} {S : SS} : ev c 311 773 [l0, l1, l2, l3, l4, l5, l6, l7] L2 (aI x :: St) S = if x = 0 then ev c 311 776 [l0, l1, l2, l3, l4, l5, l6, l7] L2 St S else ev c 311 788 [l0, l1, l2, l3, l4, l5, l6, l7] L2 St S := (ev_br i311_773 rfl).trans (ite_not _ _ _)
theorem i311_776 : insAt 311 776 = some (.aload_n 3, 1, (0, 0, 0, 0), 0) := rfl
theorem s311_776 {c : Nat → List AV → SS → Option Out} {l0 l1 l2 l4 l5 l6 l7 : Option AV} {o : OId} {L2 : List (Nat × AV)} {St : List AV} {S : SS} : ev c 311 776 [l0, l1, l2, some (aR o), l4, l5, l6, l7] L2 St S = ev c 311 777 [l0, l1, l2, some (aR o), l4, l5, l6, l7] L2 (aR o :: St) S := ev_go i311_776 rfl
theorem i311_777 : insAt 311 777 = some (.iconst 0, 1, (0, 0, 0, 0), 0) := rfl
theorem s311_777 {c : Nat → List AV → SS → Option Out} {l0 l1 l2 l3 l4 l5 l6 l7 : Option AV} {L2 : List (Nat × AV)} {St : List AV} {S : SS} : ev c 311 777 [l0, l1, l2, l3, l4, l5, l6, l7] L2 St S = ev c 311 778 [l0, l1, l2, l3, l4, l5, l6, l7] L2 (aI 0 :: St) S := ev_go i311_777 rfl
theorem i311_778 : insAt 311 778 = some (.laload, 1, (0, 0, 0, 0), 0) := rfl
theorem s311_778 {c : Nat → List AV → SS → Option Out} {l0 l1 l2 l3 l4 l5 l6 l7 : Option AV} {i : Int32} {o : OId} {L2 : List (Nat × AV)} {St : List AV} {S : SS} : ev c 311 778 [l0, l1, l2, l3, l4, l5, l6, l7] L2 (aI i :: aR o :: St) S = kJ o i (ev c 311 779 [l0, l1, l2, l3, l4, l5, l6, l7] L2 (aL (toL (S.2.1 o i.toNatClampNeg)) :: St) S) := ev_laload i311_778
theorem i311_779 : insAt 311 779 = some (.iload 7, 2, (0, 0, 0, 0), 0) := rfl
theorem s311_779 {c : Nat → List AV → SS → Option Out} {l0 l1 l2 l3 l4 l5 l6 : Option AV} {x : Int32} {L2 : List (Nat × AV)} {St : List AV} {S : SS} : ev c 311 779 [l0, l1, l2, l3, l4, l5, l6, some (aI x)] L2 St S = ev c 311 781 [l0, l1, l2, l3, l4, l5, l6, some (aI x)] L2 (aI x :: St) S := ev_go i311_779 rfl
theorem i311_781 : insAt 311 781 = some (.i2l, 1, (0, 0, 0, 0), 0) := rfl
theorem s311_781 {c : Nat → List AV → SS → Option Out} {l0 l1 l2 l3 l4 l5 l6 l7 : Option AV} {x : Int32} {L2 : List (Nat × AV)} {St : List AV} {S : SS} : ev c 311 781 [l0, l1, l2, l3, l4, l5, l6, l7] L2 (aI x :: St) S = ev c 311 782 [l0, l1, l2, l3, l4, l5, l6, l7] L2 (aL x.toInt64 :: St) S := ev_go i311_781 rfl
theorem i311_782 : insAt 311 782 = some (.lcmp, 1, (0, 0, 0, 0), 0) := rfl
theorem s311_782 {c : Nat → List AV → SS → Option Out} {l0 l1 l2 l3 l4 l5 l6 l7 : Option AV} {x y : Int64} {L2 : List (Nat × AV)} {St : List AV} {S : SS} : ev c 311 782 [l0, l1, l2, l3, l4, l5, l6, l7] L2 (aL y :: aL x :: St) S = ev c 311 783 [l0, l1, l2, l3, l4, l5, l6, l7] L2 (aI (if x < y then -1 else if x = y then 0 else 1) :: St) S := ev_go i311_782 rfl
theorem i311_783 : insAt 311 783 = some (.ifCond .eq 5, 3, (0, 0, 0, 0), 0) := rfl
theorem s311_783 {c : Nat → List AV → SS → Option Out} {l0 l1 l2 l3 l4 l5 l6 l7 : Option AV} {x : Int32} {L2 : List (Nat × AV)} {St : List AV} {S : SS} : ev c 311 783 [l0, l1, l2, l3, l4, l5, l6, l7] L2 (aI x :: St) S = if x = 0 then ev c 311 788 [l0, l1, l2, l3, l4, l5, l6, l7] L2 St S else ev c 311 786 [l0, l1, l2, l3, l4, l5, l6, l7] L2 St S := ev_br i311_783 rfl
theorem i311_786 : insAt 311 786 = some (.iconst 0, 1, (0, 0, 0, 0), 0) := rfl
theorem s311_786 {c : Nat → List AV → SS → Option Out} {l0 l1 l2 l3 l4 l5 l6 l7 : Option AV} {L2 : List (Nat × AV)} {St : List AV} {S : SS} : ev c 311 786 [l0, l1, l2, l3, l4, l5, l6, l7] L2 St S = ev c 311 787 [l0, l1, l2, l3, l4, l5, l6, l7] L2 (aI 0 :: St) S := ev_go i311_786 rfl
theorem i311_787 : insAt 311 787 = some (.ireturn, 1, (0, 0, 0, 0), 0) := rfl
theorem s311_787 {c : Nat → List AV → SS → Option Out} {l0 l1 l2 l3 l4 l5 l6 l7 : Option AV} {x : Int32} {L2 : List (Nat × AV)} {S : SS} : ev c 311 787 [l0, l1, l2, l3, l4, l5, l6, l7] L2 [aI x] S = if x = 0 ∨ x = 1 then some (.inl (some (aI x)), S) else none := ev_rt i311_787 rfl
theorem i311_788 : insAt 311 788 = some (.goto 2011, 3, (0, 0, 0, 0), 0) := rfl
theorem s311_788 {c : Nat → List AV → SS → Option Out} {l0 l1 l2 l3 l4 l5 l6 l7 : Option AV} {L2 : List (Nat × AV)} {St : List AV} {S : SS} : ev c 311 788 [l0, l1, l2, l3, l4, l5, l6, l7] L2 St S = ev c 311 2799 [l0, l1, l2, l3, l4, l5, l6, l7] L2 St S := ev_go i311_788 rfl
theorem i311_791 : insAt 311 791 = some (.aload_n 1, 1, (0, 0, 0, 0), 0) := rfl
theorem s311_791 {c : Nat → List AV → SS → Option Out} {l0 l2 l3 l4 l5 l6 l7 : Option AV} {o : OId} {L2 : List (Nat × AV)} {St : List AV} {S : SS} : ev c 311 791 [l0, some (aR o), l2, l3, l4, l5, l6, l7] L2 St S = ev c 311 792 [l0, some (aR o), l2, l3, l4, l5, l6, l7] L2 (aR o :: St) S := ev_go i311_791 rfl
theorem i311_792 : insAt 311 792 = some (.invokevirtual 184, 3, (13, 0, 2, 11), 460) := rfl
theorem s311_792 {c : Nat → List AV → SS → Option Out} {l0 l1 l2 l3 l4 l5 l6 l7 : Option AV} {j t : Nat} {L2 : List (Nat × AV)} {S : SS} : ev c 311 792 [l0, l1, l2, l3, l4, l5, l6, l7] L2 [aR (11, j, t)] S = ck (c 13 [aR (11, j, t)] S) (fun v S' => ev c 311 795 [l0, l1, l2, l3, l4, l5, l6, l7] L2 (v.toList ++ []) S') := ev_call i311_792 rfl
theorem i311_795 : insAt 311 795 = some (.aload_n 2, 1, (0, 0, 0, 0), 0) := rfl
theorem s311_795 {c : Nat → List AV → SS → Option Out} {l0 l1 l3 l4 l5 l6 l7 : Option AV} {o : OId} {L2 : List (Nat × AV)} {St : List AV} {S : SS} : ev c 311 795 [l0, l1, some (aR o), l3, l4, l5, l6, l7] L2 St S = ev c 311 796 [l0, l1, some (aR o), l3, l4, l5, l6, l7] L2 (aR o :: St) S := ev_go i311_795 rfl
theorem i311_796 : insAt 311 796 = some (.invokevirtual 187, 3, (258, 0, 2, 12), 461) := rfl
theorem s311_796 {c : Nat → List AV → SS → Option Out} {l0 l1 l2 l3 l4 l5 l6 l7 : Option AV} {t0 : AV} {j t : Nat} {L2 : List (Nat × AV)} {S : SS} : ev c 311 796 [l0, l1, l2, l3, l4, l5, l6, l7] L2 [aR (12, j, t), t0] S = ck (c 258 [aR (12, j, t)] S) (fun v S' => ev c 311 799 [l0, l1, l2, l3, l4, l5, l6, l7] L2 (v.toList ++ [t0]) S') := ev_call i311_796 rfl
theorem i311_799 : insAt 311 799 = some (.if_icmp .eq 2000, 3, (0, 0, 0, 0), 0) := rfl
theorem s311_799 {c : Nat → List AV → SS → Option Out} {l0 l1 l2 l3 l4 l5 l6 l7 : Option AV} {x y : Int32} {L2 : List (Nat × AV)} {St : List AV} {S : SS} : ev c 311 799 [l0, l1, l2, l3, l4, l5, l6, l7] L2 (aI y :: aI x :: St) S = if x = y then ev c 311 2799 [l0, l1, l2, l3, l4, l5, l6, l7] L2 St S else ev c 311 802 [l0, l1, l2, l3, l4, l5, l6, l7] L2 St S := ev_br i311_799 rfl
theorem i311_802 : insAt 311 802 = some (.iconst 0, 1, (0, 0, 0, 0), 0) := rfl
theorem s311_802 {c : Nat → List AV → SS → Option Out} {l0 l1 l2 l3 l4 l5 l6 l7 : Option AV} {L2 : List (Nat × AV)} {St : List AV} {S : SS} : ev c 311 802 [l0, l1, l2, l3, l4, l5, l6, l7] L2 St S = ev c 311 803 [l0, l1, l2, l3, l4, l5, l6, l7] L2 (aI 0 :: St) S := ev_go i311_802 rfl
theorem i311_803 : insAt 311 803 = some (.ireturn, 1, (0, 0, 0, 0), 0) := rfl
theorem s311_803 {c : Nat → List AV → SS → Option Out} {l0 l1 l2 l3 l4 l5 l6 l7 : Option AV} {x : Int32} {L2 : List (Nat × AV)} {S : SS} : ev c 311 803 [l0, l1, l2, l3, l4, l5, l6, l7] L2 [aI x] S = if x = 0 ∨ x = 1 then some (.inl (some (aI x)), S) else none := ev_rt i311_803 rfl
theorem i311_804 : insAt 311 804 = some (.aload_n 1, 1, (0, 0, 0, 0), 0) := rfl
theorem s311_804 {c : Nat → List AV → SS → Option Out} {l0 l2 l3 l4 l5 l6 l7 : Option AV} {o : OId} {L2 : List (Nat × AV)} {St : List AV} {S : SS} : ev c 311 804 [l0, some (aR o), l2, l3, l4, l5, l6, l7] L2 St S = ev c 311 805 [l0, some (aR o), l2, l3, l4, l5, l6, l7] L2 (aR o :: St) S := ev_go i311_804 rfl
theorem i311_805 : insAt 311 805 = some (.invokevirtual 188, 3, (14, 0, 2, 11), 462) := rfl
theorem s311_805 {c : Nat → List AV → SS → Option Out} {l0 l1 l2 l3 l4 l5 l6 l7 : Option AV} {j t : Nat} {L2 : List (Nat × AV)} {S : SS} : ev c 311 805 [l0, l1, l2, l3, l4, l5, l6, l7] L2 [aR (11, j, t)] S = ck (c 14 [aR (11, j, t)] S) (fun v S' => ev c 311 808 [l0, l1, l2, l3, l4, l5, l6, l7] L2 (v.toList ++ []) S') := ev_call i311_805 rfl
theorem i311_808 : insAt 311 808 = some (.aload_n 2, 1, (0, 0, 0, 0), 0) := rfl
theorem s311_808 {c : Nat → List AV → SS → Option Out} {l0 l1 l3 l4 l5 l6 l7 : Option AV} {o : OId} {L2 : List (Nat × AV)} {St : List AV} {S : SS} : ev c 311 808 [l0, l1, some (aR o), l3, l4, l5, l6, l7] L2 St S = ev c 311 809 [l0, l1, some (aR o), l3, l4, l5, l6, l7] L2 (aR o :: St) S := ev_go i311_808 rfl
theorem i311_809 : insAt 311 809 = some (.invokevirtual 191, 3, (259, 0, 2, 12), 463) := rfl
theorem s311_809 {c : Nat → List AV → SS → Option Out} {l0 l1 l2 l3 l4 l5 l6 l7 : Option AV} {t0 : AV} {j t : Nat} {L2 : List (Nat × AV)} {S : SS} : ev c 311 809 [l0, l1, l2, l3, l4, l5, l6, l7] L2 [aR (12, j, t), t0] S = ck (c 259 [aR (12, j, t)] S) (fun v S' => ev c 311 812 [l0, l1, l2, l3, l4, l5, l6, l7] L2 (v.toList ++ [t0]) S') := ev_call i311_809 rfl
theorem i311_812 : insAt 311 812 = some (.if_icmp .eq 1987, 3, (0, 0, 0, 0), 0) := rfl
theorem s311_812 {c : Nat → List AV → SS → Option Out} {l0 l1 l2 l3 l4 l5 l6 l7 : Option AV} {x y : Int32} {L2 : List (Nat × AV)} {St : List AV} {S : SS} : ev c 311 812 [l0, l1, l2, l3, l4, l5, l6, l7] L2 (aI y :: aI x :: St) S = if x = y then ev c 311 2799 [l0, l1, l2, l3, l4, l5, l6, l7] L2 St S else ev c 311 815 [l0, l1, l2, l3, l4, l5, l6, l7] L2 St S := ev_br i311_812 rfl
theorem i311_815 : insAt 311 815 = some (.iconst 0, 1, (0, 0, 0, 0), 0) := rfl
theorem s311_815 {c : Nat → List AV → SS → Option Out} {l0 l1 l2 l3 l4 l5 l6 l7 : Option AV} {L2 : List (Nat × AV)} {St : List AV} {S : SS} : ev c 311 815 [l0, l1, l2, l3, l4, l5, l6, l7] L2 St S = ev c 311 816 [l0, l1, l2, l3, l4, l5, l6, l7] L2 (aI 0 :: St) S := ev_go i311_815 rfl
theorem i311_816 : insAt 311 816 = some (.ireturn, 1, (0, 0, 0, 0), 0) := rfl
theorem s311_816 {c : Nat → List AV → SS → Option Out} {l0 l1 l2 l3 l4 l5 l6 l7 : Option AV} {x : Int32} {L2 : List (Nat × AV)} {S : SS} : ev c 311 816 [l0, l1, l2, l3, l4, l5, l6, l7] L2 [aI x] S = if x = 0 ∨ x = 1 then some (.inl (some (aI x)), S) else none := ev_rt i311_816 rfl
theorem i311_817 : insAt 311 817 = some (.aload_n 1, 1, (0, 0, 0, 0), 0) := rfl
theorem s311_817 {c : Nat → List AV → SS → Option Out} {l0 l2 l3 l4 l5 l6 l7 : Option AV} {o : OId} {L2 : List (Nat × AV)} {St : List AV} {S : SS} : ev c 311 817 [l0, some (aR o), l2, l3, l4, l5, l6, l7] L2 St S = ev c 311 818 [l0, some (aR o), l2, l3, l4, l5, l6, l7] L2 (aR o :: St) S := ev_go i311_817 rfl
theorem i311_818 : insAt 311 818 = some (.invokevirtual 192, 3, (15, 0, 2, 11), 464) := rfl
theorem s311_818 {c : Nat → List AV → SS → Option Out} {l0 l1 l2 l3 l4 l5 l6 l7 : Option AV} {j t : Nat} {L2 : List (Nat × AV)} {S : SS} : ev c 311 818 [l0, l1, l2, l3, l4, l5, l6, l7] L2 [aR (11, j, t)] S = ck (c 15 [aR (11, j, t)] S) (fun v S' => ev c 311 821 [l0, l1, l2, l3, l4, l5, l6, l7] L2 (v.toList ++ []) S') := ev_call i311_818 rfl
theorem i311_821 : insAt 311 821 = some (.aload_n 2, 1, (0, 0, 0, 0), 0) := rfl
theorem s311_821 {c : Nat → List AV → SS → Option Out} {l0 l1 l3 l4 l5 l6 l7 : Option AV} {o : OId} {L2 : List (Nat × AV)} {St : List AV} {S : SS} : ev c 311 821 [l0, l1, some (aR o), l3, l4, l5, l6, l7] L2 St S = ev c 311 822 [l0, l1, some (aR o), l3, l4, l5, l6, l7] L2 (aR o :: St) S := ev_go i311_821 rfl
theorem i311_822 : insAt 311 822 = some (.invokevirtual 195, 3, (260, 0, 2, 12), 465) := rfl
theorem s311_822 {c : Nat → List AV → SS → Option Out} {l0 l1 l2 l3 l4 l5 l6 l7 : Option AV} {t0 : AV} {j t : Nat} {L2 : List (Nat × AV)} {S : SS} : ev c 311 822 [l0, l1, l2, l3, l4, l5, l6, l7] L2 [aR (12, j, t), t0] S = ck (c 260 [aR (12, j, t)] S) (fun v S' => ev c 311 825 [l0, l1, l2, l3, l4, l5, l6, l7] L2 (v.toList ++ [t0]) S') := ev_call i311_822 rfl
theorem i311_825 : insAt 311 825 = some (.if_icmp .eq 1974, 3, (0, 0, 0, 0), 0) := rfl
theorem s311_825 {c : Nat → List AV → SS → Option Out} {l0 l1 l2 l3 l4 l5 l6 l7 : Option AV} {x y : Int32} {L2 : List (Nat × AV)} {St : List AV} {S : SS} : ev c 311 825 [l0, l1, l2, l3, l4, l5, l6, l7] L2 (aI y :: aI x :: St) S = if x = y then ev c 311 2799 [l0, l1, l2, l3, l4, l5, l6, l7] L2 St S else ev c 311 828 [l0, l1, l2, l3, l4, l5, l6, l7] L2 St S := ev_br i311_825 rfl
theorem i311_828 : insAt 311 828 = some (.iconst 0, 1, (0, 0, 0, 0), 0) := rfl
theorem s311_828 {c : Nat → List AV → SS → Option Out} {l0 l1 l2 l3 l4 l5 l6 l7 : Option AV} {L2 : List (Nat × AV)} {St : List AV} {S : SS} : ev c 311 828 [l0, l1, l2, l3, l4, l5, l6, l7] L2 St S = ev c 311 829 [l0, l1, l2, l3, l4, l5, l6, l7] L2 (aI 0 :: St) S := ev_go i311_828 rfl
theorem i311_829 : insAt 311 829 = some (.ireturn, 1, (0, 0, 0, 0), 0) := rfl
theorem s311_829 {c : Nat → List AV → SS → Option Out} {l0 l1 l2 l3 l4 l5 l6 l7 : Option AV} {x : Int32} {L2 : List (Nat × AV)} {S : SS} : ev c 311 829 [l0, l1, l2, l3, l4, l5, l6, l7] L2 [aI x] S = if x = 0 ∨ x = 1 then some (.inl (some (aI x)), S) else none := ev_rt i311_829 rfl
theorem i311_830 : insAt 311 830 = some (.aload_n 1, 1, (0, 0, 0, 0), 0) := rfl
theorem s311_830 {c : Nat → List AV → SS → Option Out} {l0 l2 l3 l4 l5 l6 l7 : Option AV} {o : OId} {L2 : List (Nat × AV)} {St : List AV} {S : SS} : ev c 311 830 [l0, some (aR o), l2, l3, l4, l5, l6, l7] L2 St S = ev c 311 831 [l0, some (aR o), l2, l3, l4, l5, l6, l7] L2 (aR o :: St) S := ev_go i311_830 rfl
theorem i311_831 : insAt 311 831 = some (.aload_n 0, 1, (0, 0, 0, 0), 0) := rfl
theorem s311_831 {c : Nat → List AV → SS → Option Out} {l1 l2 l3 l4 l5 l6 l7 : Option AV} {o : OId} {L2 : List (Nat × AV)} {St : List AV} {S : SS} : ev c 311 831 [some (aR o), l1, l2, l3, l4, l5, l6, l7] L2 St S = ev c 311 832 [some (aR o), l1, l2, l3, l4, l5, l6, l7] L2 (aR o :: St) S := ev_go i311_831 rfl
theorem i311_832 : insAt 311 832 = some (.iload 5, 2, (0, 0, 0, 0), 0) := rfl
theorem s311_832 {c : Nat → List AV → SS → Option Out} {l0 l1 l2 l3 l4 l6 l7 : Option AV} {x : Int32} {L2 : List (Nat × AV)} {St : List AV} {S : SS} : ev c 311 832 [l0, l1, l2, l3, l4, some (aI x), l6, l7] L2 St S = ev c 311 834 [l0, l1, l2, l3, l4, some (aI x), l6, l7] L2 (aI x :: St) S := ev_go i311_832 rfl
theorem i311_834 : insAt 311 834 = some (.iconst 1, 1, (0, 0, 0, 0), 0) := rfl
theorem s311_834 {c : Nat → List AV → SS → Option Out} {l0 l1 l2 l3 l4 l5 l6 l7 : Option AV} {L2 : List (Nat × AV)} {St : List AV} {S : SS} : ev c 311 834 [l0, l1, l2, l3, l4, l5, l6, l7] L2 St S = ev c 311 835 [l0, l1, l2, l3, l4, l5, l6, l7] L2 (aI 1 :: St) S := ev_go i311_834 rfl
theorem i311_835 : insAt 311 835 = some (.iadd, 1, (0, 0, 0, 0), 0) := rfl
theorem s311_835 {c : Nat → List AV → SS → Option Out} {l0 l1 l2 l3 l4 l5 l6 l7 : Option AV} {x y : Int32} {L2 : List (Nat × AV)} {St : List AV} {S : SS} : ev c 311 835 [l0, l1, l2, l3, l4, l5, l6, l7] L2 (aI y :: aI x :: St) S = ev c 311 836 [l0, l1, l2, l3, l4, l5, l6, l7] L2 (aI (x + y) :: St) S := ev_go i311_835 rfl
theorem i311_836 : insAt 311 836 = some (.iaload, 1, (0, 0, 0, 0), 0) := rfl
theorem s311_836 {c : Nat → List AV → SS → Option Out} {l0 l1 l2 l3 l4 l5 l6 l7 : Option AV} {i : Int32} {o : OId} {L2 : List (Nat × AV)} {St : List AV} {S : SS} : ev c 311 836 [l0, l1, l2, l3, l4, l5, l6, l7] L2 (aI i :: aR o :: St) S = kI o i (ev c 311 837 [l0, l1, l2, l3, l4, l5, l6, l7] L2 (aI (agI S o i.toNatClampNeg) :: St) S) := ev_iaload i311_836
theorem i311_837 : insAt 311 837 = some (.invokevirtual 196, 3, (18, 1, 2, 11), 466) := rfl
theorem s311_837 {c : Nat → List AV → SS → Option Out} {l0 l1 l2 l3 l4 l5 l6 l7 : Option AV} {a0 : Int32} {j t : Nat} {L2 : List (Nat × AV)} {S : SS} : ev c 311 837 [l0, l1, l2, l3, l4, l5, l6, l7] L2 [aI a0, aR (11, j, t)] S = ck (c 18 [aR (11, j, t), aI a0] S) (fun v S' => ev c 311 840 [l0, l1, l2, l3, l4, l5, l6, l7] L2 (v.toList ++ []) S') := ev_call i311_837 rfl
theorem i311_840 : insAt 311 840 = some (.aload_n 2, 1, (0, 0, 0, 0), 0) := rfl
theorem s311_840 {c : Nat → List AV → SS → Option Out} {l0 l1 l3 l4 l5 l6 l7 : Option AV} {o : OId} {L2 : List (Nat × AV)} {St : List AV} {S : SS} : ev c 311 840 [l0, l1, some (aR o), l3, l4, l5, l6, l7] L2 St S = ev c 311 841 [l0, l1, some (aR o), l3, l4, l5, l6, l7] L2 (aR o :: St) S := ev_go i311_840 rfl
theorem i311_841 : insAt 311 841 = some (.aload_n 0, 1, (0, 0, 0, 0), 0) := rfl
theorem s311_841 {c : Nat → List AV → SS → Option Out} {l1 l2 l3 l4 l5 l6 l7 : Option AV} {o : OId} {L2 : List (Nat × AV)} {St : List AV} {S : SS} : ev c 311 841 [some (aR o), l1, l2, l3, l4, l5, l6, l7] L2 St S = ev c 311 842 [some (aR o), l1, l2, l3, l4, l5, l6, l7] L2 (aR o :: St) S := ev_go i311_841 rfl
theorem i311_842 : insAt 311 842 = some (.iload 5, 2, (0, 0, 0, 0), 0) := rfl
theorem s311_842 {c : Nat → List AV → SS → Option Out} {l0 l1 l2 l3 l4 l6 l7 : Option AV} {x : Int32} {L2 : List (Nat × AV)} {St : List AV} {S : SS} : ev c 311 842 [l0, l1, l2, l3, l4, some (aI x), l6, l7] L2 St S = ev c 311 844 [l0, l1, l2, l3, l4, some (aI x), l6, l7] L2 (aI x :: St) S := ev_go i311_842 rfl
theorem i311_844 : insAt 311 844 = some (.iconst 1, 1, (0, 0, 0, 0), 0) := rfl
theorem s311_844 {c : Nat → List AV → SS → Option Out} {l0 l1 l2 l3 l4 l5 l6 l7 : Option AV} {L2 : List (Nat × AV)} {St : List AV} {S : SS} : ev c 311 844 [l0, l1, l2, l3, l4, l5, l6, l7] L2 St S = ev c 311 845 [l0, l1, l2, l3, l4, l5, l6, l7] L2 (aI 1 :: St) S := ev_go i311_844 rfl
theorem i311_845 : insAt 311 845 = some (.iadd, 1, (0, 0, 0, 0), 0) := rfl
theorem s311_845 {c : Nat → List AV → SS → Option Out} {l0 l1 l2 l3 l4 l5 l6 l7 : Option AV} {x y : Int32} {L2 : List (Nat × AV)} {St : List AV} {S : SS} : ev c 311 845 [l0, l1, l2, l3, l4, l5, l6, l7] L2 (aI y :: aI x :: St) S = ev c 311 846 [l0, l1, l2, l3, l4, l5, l6, l7] L2 (aI (x + y) :: St) S := ev_go i311_845 rfl
theorem i311_846 : insAt 311 846 = some (.iaload, 1, (0, 0, 0, 0), 0) := rfl
theorem s311_846 {c : Nat → List AV → SS → Option Out} {l0 l1 l2 l3 l4 l5 l6 l7 : Option AV} {i : Int32} {o : OId} {L2 : List (Nat × AV)} {St : List AV} {S : SS} : ev c 311 846 [l0, l1, l2, l3, l4, l5, l6, l7] L2 (aI i :: aR o :: St) S = kI o i (ev c 311 847 [l0, l1, l2, l3, l4, l5, l6, l7] L2 (aI (agI S o i.toNatClampNeg) :: St) S) := ev_iaload i311_846
theorem i311_847 : insAt 311 847 = some (.invokevirtual 199, 3, (262, 1, 2, 12), 467) := rfl
theorem s311_847 {c : Nat → List AV → SS → Option Out} {l0 l1 l2 l3 l4 l5 l6 l7 : Option AV} {t0 : AV} {a0 : Int32} {j t : Nat} {L2 : List (Nat × AV)} {S : SS} : ev c 311 847 [l0, l1, l2, l3, l4, l5, l6, l7] L2 [aI a0, aR (12, j, t), t0] S = ck (c 262 [aR (12, j, t), aI a0] S) (fun v S' => ev c 311 850 [l0, l1, l2, l3, l4, l5, l6, l7] L2 (v.toList ++ [t0]) S') := ev_call i311_847 rfl
theorem i311_850 : insAt 311 850 = some (.if_icmp .eq 1949, 3, (0, 0, 0, 0), 0) := rfl
theorem s311_850 {c : Nat → List AV → SS → Option Out} {l0 l1 l2 l3 l4 l5 l6 l7 : Option AV} {x y : Int32} {L2 : List (Nat × AV)} {St : List AV} {S : SS} : ev c 311 850 [l0, l1, l2, l3, l4, l5, l6, l7] L2 (aI y :: aI x :: St) S = if x = y then ev c 311 2799 [l0, l1, l2, l3, l4, l5, l6, l7] L2 St S else ev c 311 853 [l0, l1, l2, l3, l4, l5, l6, l7] L2 St S := ev_br i311_850 rfl
theorem i311_853 : insAt 311 853 = some (.iconst 0, 1, (0, 0, 0, 0), 0) := rfl
theorem s311_853 {c : Nat → List AV → SS → Option Out} {l0 l1 l2 l3 l4 l5 l6 l7 : Option AV} {L2 : List (Nat × AV)} {St : List AV} {S : SS} : ev c 311 853 [l0, l1, l2, l3, l4, l5, l6, l7] L2 St S = ev c 311 854 [l0, l1, l2, l3, l4, l5, l6, l7] L2 (aI 0 :: St) S := ev_go i311_853 rfl
theorem i311_854 : insAt 311 854 = some (.ireturn, 1, (0, 0, 0, 0), 0) := rfl
theorem s311_854 {c : Nat → List AV → SS → Option Out} {l0 l1 l2 l3 l4 l5 l6 l7 : Option AV} {x : Int32} {L2 : List (Nat × AV)} {S : SS} : ev c 311 854 [l0, l1, l2, l3, l4, l5, l6, l7] L2 [aI x] S = if x = 0 ∨ x = 1 then some (.inl (some (aI x)), S) else none := ev_rt i311_854 rfl
theorem i311_855 : insAt 311 855 = some (.aload_n 1, 1, (0, 0, 0, 0), 0) := rfl
theorem s311_855 {c : Nat → List AV → SS → Option Out} {l0 l2 l3 l4 l5 l6 l7 : Option AV} {o : OId} {L2 : List (Nat × AV)} {St : List AV} {S : SS} : ev c 311 855 [l0, some (aR o), l2, l3, l4, l5, l6, l7] L2 St S = ev c 311 856 [l0, some (aR o), l2, l3, l4, l5, l6, l7] L2 (aR o :: St) S := ev_go i311_855 rfl
theorem i311_856 : insAt 311 856 = some (.aload_n 0, 1, (0, 0, 0, 0), 0) := rfl
theorem s311_856 {c : Nat → List AV → SS → Option Out} {l1 l2 l3 l4 l5 l6 l7 : Option AV} {o : OId} {L2 : List (Nat × AV)} {St : List AV} {S : SS} : ev c 311 856 [some (aR o), l1, l2, l3, l4, l5, l6, l7] L2 St S = ev c 311 857 [some (aR o), l1, l2, l3, l4, l5, l6, l7] L2 (aR o :: St) S := ev_go i311_856 rfl
theorem i311_857 : insAt 311 857 = some (.iload 5, 2, (0, 0, 0, 0), 0) := rfl
theorem s311_857 {c : Nat → List AV → SS → Option Out} {l0 l1 l2 l3 l4 l6 l7 : Option AV} {x : Int32} {L2 : List (Nat × AV)} {St : List AV} {S : SS} : ev c 311 857 [l0, l1, l2, l3, l4, some (aI x), l6, l7] L2 St S = ev c 311 859 [l0, l1, l2, l3, l4, some (aI x), l6, l7] L2 (aI x :: St) S := ev_go i311_857 rfl
theorem i311_859 : insAt 311 859 = some (.iconst 1, 1, (0, 0, 0, 0), 0) := rfl
theorem s311_859 {c : Nat → List AV → SS → Option Out} {l0 l1 l2 l3 l4 l5 l6 l7 : Option AV} {L2 : List (Nat × AV)} {St : List AV} {S : SS} : ev c 311 859 [l0, l1, l2, l3, l4, l5, l6, l7] L2 St S = ev c 311 860 [l0, l1, l2, l3, l4, l5, l6, l7] L2 (aI 1 :: St) S := ev_go i311_859 rfl
theorem i311_860 : insAt 311 860 = some (.iadd, 1, (0, 0, 0, 0), 0) := rfl
theorem s311_860 {c : Nat → List AV → SS → Option Out} {l0 l1 l2 l3 l4 l5 l6 l7 : Option AV} {x y : Int32} {L2 : List (Nat × AV)} {St : List AV} {S : SS} : ev c 311 860 [l0, l1, l2, l3, l4, l5, l6, l7] L2 (aI y :: aI x :: St) S = ev c 311 861 [l0, l1, l2, l3, l4, l5, l6, l7] L2 (aI (x + y) :: St) S := ev_go i311_860 rfl
theorem i311_861 : insAt 311 861 = some (.iaload, 1, (0, 0, 0, 0), 0) := rfl
theorem s311_861 {c : Nat → List AV → SS → Option Out} {l0 l1 l2 l3 l4 l5 l6 l7 : Option AV} {i : Int32} {o : OId} {L2 : List (Nat × AV)} {St : List AV} {S : SS} : ev c 311 861 [l0, l1, l2, l3, l4, l5, l6, l7] L2 (aI i :: aR o :: St) S = kI o i (ev c 311 862 [l0, l1, l2, l3, l4, l5, l6, l7] L2 (aI (agI S o i.toNatClampNeg) :: St) S) := ev_iaload i311_861
theorem i311_862 : insAt 311 862 = some (.aload_n 3, 1, (0, 0, 0, 0), 0) := rfl
theorem s311_862 {c : Nat → List AV → SS → Option Out} {l0 l1 l2 l4 l5 l6 l7 : Option AV} {o : OId} {L2 : List (Nat × AV)} {St : List AV} {S : SS} : ev c 311 862 [l0, l1, l2, some (aR o), l4, l5, l6, l7] L2 St S = ev c 311 863 [l0, l1, l2, some (aR o), l4, l5, l6, l7] L2 (aR o :: St) S := ev_go i311_862 rfl
theorem i311_863 : insAt 311 863 = some (.invokestatic 200, 3, (99, 3, 0, 0), 468) := rfl
theorem s311_863 {c : Nat → List AV → SS → Option Out} {l0 l1 l2 l3 l4 l5 l6 l7 : Option AV} {a0 : OId} {a1 : Int32} {a2 : OId} {L2 : List (Nat × AV)} {S : SS} : ev c 311 863 [l0, l1, l2, l3, l4, l5, l6, l7] L2 [aR a2, aI a1, aR a0] S = ck (c 99 [aR a0, aI a1, aR a2] S) (fun v S' => ev c 311 866 [l0, l1, l2, l3, l4, l5, l6, l7] L2 (v.toList ++ []) S') := ev_call i311_863 rfl
theorem i311_866 : insAt 311 866 = some (.istore 6, 2, (0, 0, 0, 0), 0) := rfl
theorem s311_866 {c : Nat → List AV → SS → Option Out} {l0 l1 l2 l3 l4 l5 l6 l7 : Option AV} {x : Int32} {L2 : List (Nat × AV)} {St : List AV} {S : SS} : ev c 311 866 [l0, l1, l2, l3, l4, l5, l6, l7] L2 (aI x :: St) S = ev c 311 868 [l0, l1, l2, l3, l4, l5, some (aI x), l7] (kil L2 6) St S := ev_go i311_866 rfl
theorem i311_868 : insAt 311 868 = some (.aload_n 2, 1, (0, 0, 0, 0), 0) := rfl
theorem s311_868 {c : Nat → List AV → SS → Option Out} {l0 l1 l3 l4 l5 l6 l7 : Option AV} {o : OId} {L2 : List (Nat × AV)} {St : List AV} {S : SS} : ev c 311 868 [l0, l1, some (aR o), l3, l4, l5, l6, l7] L2 St S = ev c 311 869 [l0, l1, some (aR o), l3, l4, l5, l6, l7] L2 (aR o :: St) S := ev_go i311_868 rfl
theorem i311_869 : insAt 311 869 = some (.aload_n 0, 1, (0, 0, 0, 0), 0) := rfl
theorem s311_869 {c : Nat → List AV → SS → Option Out} {l1 l2 l3 l4 l5 l6 l7 : Option AV} {o : OId} {L2 : List (Nat × AV)} {St : List AV} {S : SS} : ev c 311 869 [some (aR o), l1, l2, l3, l4, l5, l6, l7] L2 St S = ev c 311 870 [some (aR o), l1, l2, l3, l4, l5, l6, l7] L2 (aR o :: St) S := ev_go i311_869 rfl
theorem i311_870 : insAt 311 870 = some (.iload 5, 2, (0, 0, 0, 0), 0) := rfl
theorem s311_870 {c : Nat → List AV → SS → Option Out} {l0 l1 l2 l3 l4 l6 l7 : Option AV} {x : Int32} {L2 : List (Nat × AV)} {St : List AV} {S : SS} : ev c 311 870 [l0, l1, l2, l3, l4, some (aI x), l6, l7] L2 St S = ev c 311 872 [l0, l1, l2, l3, l4, some (aI x), l6, l7] L2 (aI x :: St) S := ev_go i311_870 rfl
theorem i311_872 : insAt 311 872 = some (.iconst 1, 1, (0, 0, 0, 0), 0) := rfl
theorem s311_872 {c : Nat → List AV → SS → Option Out} {l0 l1 l2 l3 l4 l5 l6 l7 : Option AV} {L2 : List (Nat × AV)} {St : List AV} {S : SS} : ev c 311 872 [l0, l1, l2, l3, l4, l5, l6, l7] L2 St S = ev c 311 873 [l0, l1, l2, l3, l4, l5, l6, l7] L2 (aI 1 :: St) S := ev_go i311_872 rfl
theorem i311_873 : insAt 311 873 = some (.iadd, 1, (0, 0, 0, 0), 0) := rfl
theorem s311_873 {c : Nat → List AV → SS → Option Out} {l0 l1 l2 l3 l4 l5 l6 l7 : Option AV} {x y : Int32} {L2 : List (Nat × AV)} {St : List AV} {S : SS} : ev c 311 873 [l0, l1, l2, l3, l4, l5, l6, l7] L2 (aI y :: aI x :: St) S = ev c 311 874 [l0, l1, l2, l3, l4, l5, l6, l7] L2 (aI (x + y) :: St) S := ev_go i311_873 rfl
theorem i311_874 : insAt 311 874 = some (.iaload, 1, (0, 0, 0, 0), 0) := rfl
theorem s311_874 {c : Nat → List AV → SS → Option Out} {l0 l1 l2 l3 l4 l5 l6 l7 : Option AV} {i : Int32} {o : OId} {L2 : List (Nat × AV)} {St : List AV} {S : SS} : ev c 311 874 [l0, l1, l2, l3, l4, l5, l6, l7] L2 (aI i :: aR o :: St) S = kI o i (ev c 311 875 [l0, l1, l2, l3, l4, l5, l6, l7] L2 (aI (agI S o i.toNatClampNeg) :: St) S) := ev_iaload i311_874
theorem i311_875 : insAt 311 875 = some (.invokevirtual 202, 3, (263, 1, 2, 12), 469) := rfl
theorem s311_875 {c : Nat → List AV → SS → Option Out} {l0 l1 l2 l3 l4 l5 l6 l7 : Option AV} {a0 : Int32} {j t : Nat} {L2 : List (Nat × AV)} {S : SS} : ev c 311 875 [l0, l1, l2, l3, l4, l5, l6, l7] L2 [aI a0, aR (12, j, t)] S = ck (c 263 [aR (12, j, t), aI a0] S) (fun v S' => ev c 311 878 [l0, l1, l2, l3, l4, l5, l6, l7] L2 (v.toList ++ []) S') := ev_call i311_875 rfl
theorem i311_878 : insAt 311 878 = some (.istore 7, 2, (0, 0, 0, 0), 0) := rfl
theorem s311_878 {c : Nat → List AV → SS → Option Out} {l0 l1 l2 l3 l4 l5 l6 l7 : Option AV} {x : Int32} {L2 : List (Nat × AV)} {St : List AV} {S : SS} : ev c 311 878 [l0, l1, l2, l3, l4, l5, l6, l7] L2 (aI x :: St) S = ev c 311 880 [l0, l1, l2, l3, l4, l5, l6, some (aI x)] (kil L2 7) St S := ev_go i311_878 rfl
theorem i311_880 : insAt 311 880 = some (.aload_n 2, 1, (0, 0, 0, 0), 0) := rfl
theorem s311_880 {c : Nat → List AV → SS → Option Out} {l0 l1 l3 l4 l5 l6 l7 : Option AV} {o : OId} {L2 : List (Nat × AV)} {St : List AV} {S : SS} : ev c 311 880 [l0, l1, some (aR o), l3, l4, l5, l6, l7] L2 St S = ev c 311 881 [l0, l1, some (aR o), l3, l4, l5, l6, l7] L2 (aR o :: St) S := ev_go i311_880 rfl
theorem i311_881 : insAt 311 881 = some (.invokevirtual 149, 3, (215, 0, 2, 12), 441) := rfl
theorem s311_881 {c : Nat → List AV → SS → Option Out} {l0 l1 l2 l3 l4 l5 l6 l7 : Option AV} {j t : Nat} {L2 : List (Nat × AV)} {S : SS} : ev c 311 881 [l0, l1, l2, l3, l4, l5, l6, l7] L2 [aR (12, j, t)] S = ck (c 215 [aR (12, j, t)] S) (fun v S' => ev c 311 884 [l0, l1, l2, l3, l4, l5, l6, l7] L2 (v.toList ++ []) S') := ev_call i311_881 rfl
theorem i311_884 : insAt 311 884 = some (.iload 6, 2, (0, 0, 0, 0), 0) := rfl
theorem s311_884 {c : Nat → List AV → SS → Option Out} {l0 l1 l2 l3 l4 l5 l7 : Option AV} {x : Int32} {L2 : List (Nat × AV)} {St : List AV} {S : SS} : ev c 311 884 [l0, l1, l2, l3, l4, l5, some (aI x), l7] L2 St S = ev c 311 886 [l0, l1, l2, l3, l4, l5, some (aI x), l7] L2 (aI x :: St) S := ev_go i311_884 rfl
theorem i311_886 : insAt 311 886 = some (.if_icmp .eq 5, 3, (0, 0, 0, 0), 0) := rfl
theorem s311_886 {c : Nat → List AV → SS → Option Out} {l0 l1 l2 l3 l4 l5 l6 l7 : Option AV} {x y : Int32} {L2 : List (Nat × AV)} {St : List AV} {S : SS} : ev c 311 886 [l0, l1, l2, l3, l4, l5, l6, l7] L2 (aI y :: aI x :: St) S = if x = y then ev c 311 891 [l0, l1, l2, l3, l4, l5, l6, l7] L2 St S else ev c 311 889 [l0, l1, l2, l3, l4, l5, l6, l7] L2 St S := ev_br i311_886 rfl
theorem i311_889 : insAt 311 889 = some (.iconst 0, 1, (0, 0, 0, 0), 0) := rfl
theorem s311_889 {c : Nat → List AV → SS → Option Out} {l0 l1 l2 l3 l4 l5 l6 l7 : Option AV} {L2 : List (Nat × AV)} {St : List AV} {S : SS} : ev c 311 889 [l0, l1, l2, l3, l4, l5, l6, l7] L2 St S = ev c 311 890 [l0, l1, l2, l3, l4, l5, l6, l7] L2 (aI 0 :: St) S := ev_go i311_889 rfl
theorem i311_890 : insAt 311 890 = some (.ireturn, 1, (0, 0, 0, 0), 0) := rfl
theorem s311_890 {c : Nat → List AV → SS → Option Out} {l0 l1 l2 l3 l4 l5 l6 l7 : Option AV} {x : Int32} {L2 : List (Nat × AV)} {S : SS} : ev c 311 890 [l0, l1, l2, l3, l4, l5, l6, l7] L2 [aI x] S = if x = 0 ∨ x = 1 then some (.inl (some (aI x)), S) else none := ev_rt i311_890 rfl
theorem i311_891 : insAt 311 891 = some (.iload 6, 2, (0, 0, 0, 0), 0) := rfl
theorem s311_891 {c : Nat → List AV → SS → Option Out} {l0 l1 l2 l3 l4 l5 l7 : Option AV} {x : Int32} {L2 : List (Nat × AV)} {St : List AV} {S : SS} : ev c 311 891 [l0, l1, l2, l3, l4, l5, some (aI x), l7] L2 St S = ev c 311 893 [l0, l1, l2, l3, l4, l5, some (aI x), l7] L2 (aI x :: St) S := ev_go i311_891 rfl
theorem i311_893 : insAt 311 893 = some (.ifCond .ne 15, 3, (0, 0, 0, 0), 0) := rfl
theorem s311_893 {c : Nat → List AV → SS → Option Out} {l0 l1 l2 l3 l4 l5 l6 l7 : Option AV} {x : Int32} {L2 : List (Nat × AV)} {St : List AV} {S : SS} : ev c 311 893 [l0, l1, l2, l3, l4, l5, l6, l7] L2 (aI x :: St) S = if x = 0 then ev c 311 896 [l0, l1, l2, l3, l4, l5, l6, l7] L2 St S else ev c 311 908 [l0, l1, l2, l3, l4, l5, l6, l7] L2 St S := (ev_br i311_893 rfl).trans (ite_not _ _ _)
theorem i311_896 : insAt 311 896 = some (.aload_n 3, 1, (0, 0, 0, 0), 0) := rfl
theorem s311_896 {c : Nat → List AV → SS → Option Out} {l0 l1 l2 l4 l5 l6 l7 : Option AV} {o : OId} {L2 : List (Nat × AV)} {St : List AV} {S : SS} : ev c 311 896 [l0, l1, l2, some (aR o), l4, l5, l6, l7] L2 St S = ev c 311 897 [l0, l1, l2, some (aR o), l4, l5, l6, l7] L2 (aR o :: St) S := ev_go i311_896 rfl
theorem i311_897 : insAt 311 897 = some (.iconst 0, 1, (0, 0, 0, 0), 0) := rfl
theorem s311_897 {c : Nat → List AV → SS → Option Out} {l0 l1 l2 l3 l4 l5 l6 l7 : Option AV} {L2 : List (Nat × AV)} {St : List AV} {S : SS} : ev c 311 897 [l0, l1, l2, l3, l4, l5, l6, l7] L2 St S = ev c 311 898 [l0, l1, l2, l3, l4, l5, l6, l7] L2 (aI 0 :: St) S := ev_go i311_897 rfl
theorem i311_898 : insAt 311 898 = some (.laload, 1, (0, 0, 0, 0), 0) := rfl
theorem s311_898 {c : Nat → List AV → SS → Option Out} {l0 l1 l2 l3 l4 l5 l6 l7 : Option AV} {i : Int32} {o : OId} {L2 : List (Nat × AV)} {St : List AV} {S : SS} : ev c 311 898 [l0, l1, l2, l3, l4, l5, l6, l7] L2 (aI i :: aR o :: St) S = kJ o i (ev c 311 899 [l0, l1, l2, l3, l4, l5, l6, l7] L2 (aL (toL (S.2.1 o i.toNatClampNeg)) :: St) S) := ev_laload i311_898
theorem i311_899 : insAt 311 899 = some (.iload 7, 2, (0, 0, 0, 0), 0) := rfl
theorem s311_899 {c : Nat → List AV → SS → Option Out} {l0 l1 l2 l3 l4 l5 l6 : Option AV} {x : Int32} {L2 : List (Nat × AV)} {St : List AV} {S : SS} : ev c 311 899 [l0, l1, l2, l3, l4, l5, l6, some (aI x)] L2 St S = ev c 311 901 [l0, l1, l2, l3, l4, l5, l6, some (aI x)] L2 (aI x :: St) S := ev_go i311_899 rfl
theorem i311_901 : insAt 311 901 = some (.i2l, 1, (0, 0, 0, 0), 0) := rfl
theorem s311_901 {c : Nat → List AV → SS → Option Out} {l0 l1 l2 l3 l4 l5 l6 l7 : Option AV} {x : Int32} {L2 : List (Nat × AV)} {St : List AV} {S : SS} : ev c 311 901 [l0, l1, l2, l3, l4, l5, l6, l7] L2 (aI x :: St) S = ev c 311 902 [l0, l1, l2, l3, l4, l5, l6, l7] L2 (aL x.toInt64 :: St) S := ev_go i311_901 rfl
theorem i311_902 : insAt 311 902 = some (.lcmp, 1, (0, 0, 0, 0), 0) := rfl
theorem s311_902 {c : Nat → List AV → SS → Option Out} {l0 l1 l2 l3 l4 l5 l6 l7 : Option AV} {x y : Int64} {L2 : List (Nat × AV)} {St : List AV} {S : SS} : ev c 311 902 [l0, l1, l2, l3, l4, l5, l6, l7] L2 (aL y :: aL x :: St) S = ev c 311 903 [l0, l1, l2, l3, l4, l5, l6, l7] L2 (aI (if x < y then -1 else if x = y then 0 else 1) :: St) S := ev_go i311_902 rfl
theorem i311_903 : insAt 311 903 = some (.ifCond .eq 5, 3, (0, 0, 0, 0), 0) := rfl
theorem s311_903 {c : Nat → List AV → SS → Option Out} {l0 l1 l2 l3 l4 l5 l6 l7 : Option AV} {x : Int32} {L2 : List (Nat × AV)} {St : List AV} {S : SS} : ev c 311 903 [l0, l1, l2, l3, l4, l5, l6, l7] L2 (aI x :: St) S = if x = 0 then ev c 311 908 [l0, l1, l2, l3, l4, l5, l6, l7] L2 St S else ev c 311 906 [l0, l1, l2, l3, l4, l5, l6, l7] L2 St S := ev_br i311_903 rfl
theorem i311_906 : insAt 311 906 = some (.iconst 0, 1, (0, 0, 0, 0), 0) := rfl
theorem s311_906 {c : Nat → List AV → SS → Option Out} {l0 l1 l2 l3 l4 l5 l6 l7 : Option AV} {L2 : List (Nat × AV)} {St : List AV} {S : SS} : ev c 311 906 [l0, l1, l2, l3, l4, l5, l6, l7] L2 St S = ev c 311 907 [l0, l1, l2, l3, l4, l5, l6, l7] L2 (aI 0 :: St) S := ev_go i311_906 rfl
theorem i311_907 : insAt 311 907 = some (.ireturn, 1, (0, 0, 0, 0), 0) := rfl
theorem s311_907 {c : Nat → List AV → SS → Option Out} {l0 l1 l2 l3 l4 l5 l6 l7 : Option AV} {x : Int32} {L2 : List (Nat × AV)} {S : SS} : ev c 311 907 [l0, l1, l2, l3, l4, l5, l6, l7] L2 [aI x] S = if x = 0 ∨ x = 1 then some (.inl (some (aI x)), S) else none := ev_rt i311_907 rfl
theorem i311_908 : insAt 311 908 = some (.goto 1891, 3, (0, 0, 0, 0), 0) := rfl
theorem s311_908 {c : Nat → List AV → SS → Option Out} {l0 l1 l2 l3 l4 l5 l6 l7 : Option AV} {L2 : List (Nat × AV)} {St : List AV} {S : SS} : ev c 311 908 [l0, l1, l2, l3, l4, l5, l6, l7] L2 St S = ev c 311 2799 [l0, l1, l2, l3, l4, l5, l6, l7] L2 St S := ev_go i311_908 rfl
theorem i311_911 : insAt 311 911 = some (.aload_n 1, 1, (0, 0, 0, 0), 0) := rfl
theorem s311_911 {c : Nat → List AV → SS → Option Out} {l0 l2 l3 l4 l5 l6 l7 : Option AV} {o : OId} {L2 : List (Nat × AV)} {St : List AV} {S : SS} : ev c 311 911 [l0, some (aR o), l2, l3, l4, l5, l6, l7] L2 St S = ev c 311 912 [l0, some (aR o), l2, l3, l4, l5, l6, l7] L2 (aR o :: St) S := ev_go i311_911 rfl
theorem i311_912 : insAt 311 912 = some (.aload_n 0, 1, (0, 0, 0, 0), 0) := rfl
theorem s311_912 {c : Nat → List AV → SS → Option Out} {l1 l2 l3 l4 l5 l6 l7 : Option AV} {o : OId} {L2 : List (Nat × AV)} {St : List AV} {S : SS} : ev c 311 912 [some (aR o), l1, l2, l3, l4, l5, l6, l7] L2 St S = ev c 311 913 [some (aR o), l1, l2, l3, l4, l5, l6, l7] L2 (aR o :: St) S := ev_go i311_912 rfl
theorem i311_913 : insAt 311 913 = some (.iload 5, 2, (0, 0, 0, 0), 0) := rfl
theorem s311_913 {c : Nat → List AV → SS → Option Out} {l0 l1 l2 l3 l4 l6 l7 : Option AV} {x : Int32} {L2 : List (Nat × AV)} {St : List AV} {S : SS} : ev c 311 913 [l0, l1, l2, l3, l4, some (aI x), l6, l7] L2 St S = ev c 311 915 [l0, l1, l2, l3, l4, some (aI x), l6, l7] L2 (aI x :: St) S := ev_go i311_913 rfl
theorem i311_915 : insAt 311 915 = some (.iconst 1, 1, (0, 0, 0, 0), 0) := rfl
theorem s311_915 {c : Nat → List AV → SS → Option Out} {l0 l1 l2 l3 l4 l5 l6 l7 : Option AV} {L2 : List (Nat × AV)} {St : List AV} {S : SS} : ev c 311 915 [l0, l1, l2, l3, l4, l5, l6, l7] L2 St S = ev c 311 916 [l0, l1, l2, l3, l4, l5, l6, l7] L2 (aI 1 :: St) S := ev_go i311_915 rfl
theorem i311_916 : insAt 311 916 = some (.iadd, 1, (0, 0, 0, 0), 0) := rfl
theorem s311_916 {c : Nat → List AV → SS → Option Out} {l0 l1 l2 l3 l4 l5 l6 l7 : Option AV} {x y : Int32} {L2 : List (Nat × AV)} {St : List AV} {S : SS} : ev c 311 916 [l0, l1, l2, l3, l4, l5, l6, l7] L2 (aI y :: aI x :: St) S = ev c 311 917 [l0, l1, l2, l3, l4, l5, l6, l7] L2 (aI (x + y) :: St) S := ev_go i311_916 rfl
theorem i311_917 : insAt 311 917 = some (.iaload, 1, (0, 0, 0, 0), 0) := rfl
theorem s311_917 {c : Nat → List AV → SS → Option Out} {l0 l1 l2 l3 l4 l5 l6 l7 : Option AV} {i : Int32} {o : OId} {L2 : List (Nat × AV)} {St : List AV} {S : SS} : ev c 311 917 [l0, l1, l2, l3, l4, l5, l6, l7] L2 (aI i :: aR o :: St) S = kI o i (ev c 311 918 [l0, l1, l2, l3, l4, l5, l6, l7] L2 (aI (agI S o i.toNatClampNeg) :: St) S) := ev_iaload i311_917
theorem i311_918 : insAt 311 918 = some (.aload_n 3, 1, (0, 0, 0, 0), 0) := rfl
theorem s311_918 {c : Nat → List AV → SS → Option Out} {l0 l1 l2 l4 l5 l6 l7 : Option AV} {o : OId} {L2 : List (Nat × AV)} {St : List AV} {S : SS} : ev c 311 918 [l0, l1, l2, some (aR o), l4, l5, l6, l7] L2 St S = ev c 311 919 [l0, l1, l2, some (aR o), l4, l5, l6, l7] L2 (aR o :: St) S := ev_go i311_918 rfl
theorem i311_919 : insAt 311 919 = some (.invokestatic 203, 3, (102, 3, 0, 0), 470) := rfl
theorem s311_919 {c : Nat → List AV → SS → Option Out} {l0 l1 l2 l3 l4 l5 l6 l7 : Option AV} {a0 : OId} {a1 : Int32} {a2 : OId} {L2 : List (Nat × AV)} {S : SS} : ev c 311 919 [l0, l1, l2, l3, l4, l5, l6, l7] L2 [aR a2, aI a1, aR a0] S = ck (c 102 [aR a0, aI a1, aR a2] S) (fun v S' => ev c 311 922 [l0, l1, l2, l3, l4, l5, l6, l7] L2 (v.toList ++ []) S') := ev_call i311_919 rfl
theorem i311_922 : insAt 311 922 = some (.istore 6, 2, (0, 0, 0, 0), 0) := rfl
theorem s311_922 {c : Nat → List AV → SS → Option Out} {l0 l1 l2 l3 l4 l5 l6 l7 : Option AV} {x : Int32} {L2 : List (Nat × AV)} {St : List AV} {S : SS} : ev c 311 922 [l0, l1, l2, l3, l4, l5, l6, l7] L2 (aI x :: St) S = ev c 311 924 [l0, l1, l2, l3, l4, l5, some (aI x), l7] (kil L2 6) St S := ev_go i311_922 rfl
theorem i311_924 : insAt 311 924 = some (.aload_n 2, 1, (0, 0, 0, 0), 0) := rfl
theorem s311_924 {c : Nat → List AV → SS → Option Out} {l0 l1 l3 l4 l5 l6 l7 : Option AV} {o : OId} {L2 : List (Nat × AV)} {St : List AV} {S : SS} : ev c 311 924 [l0, l1, some (aR o), l3, l4, l5, l6, l7] L2 St S = ev c 311 925 [l0, l1, some (aR o), l3, l4, l5, l6, l7] L2 (aR o :: St) S := ev_go i311_924 rfl
theorem i311_925 : insAt 311 925 = some (.aload_n 0, 1, (0, 0, 0, 0), 0) := rfl
theorem s311_925 {c : Nat → List AV → SS → Option Out} {l1 l2 l3 l4 l5 l6 l7 : Option AV} {o : OId} {L2 : List (Nat × AV)} {St : List AV} {S : SS} : ev c 311 925 [some (aR o), l1, l2, l3, l4, l5, l6, l7] L2 St S = ev c 311 926 [some (aR o), l1, l2, l3, l4, l5, l6, l7] L2 (aR o :: St) S := ev_go i311_925 rfl
theorem i311_926 : insAt 311 926 = some (.iload 5, 2, (0, 0, 0, 0), 0) := rfl
theorem s311_926 {c : Nat → List AV → SS → Option Out} {l0 l1 l2 l3 l4 l6 l7 : Option AV} {x : Int32} {L2 : List (Nat × AV)} {St : List AV} {S : SS} : ev c 311 926 [l0, l1, l2, l3, l4, some (aI x), l6, l7] L2 St S = ev c 311 928 [l0, l1, l2, l3, l4, some (aI x), l6, l7] L2 (aI x :: St) S := ev_go i311_926 rfl
theorem i311_928 : insAt 311 928 = some (.iconst 1, 1, (0, 0, 0, 0), 0) := rfl
theorem s311_928 {c : Nat → List AV → SS → Option Out} {l0 l1 l2 l3 l4 l5 l6 l7 : Option AV} {L2 : List (Nat × AV)} {St : List AV} {S : SS} : ev c 311 928 [l0, l1, l2, l3, l4, l5, l6, l7] L2 St S = ev c 311 929 [l0, l1, l2, l3, l4, l5, l6, l7] L2 (aI 1 :: St) S := ev_go i311_928 rfl
theorem i311_929 : insAt 311 929 = some (.iadd, 1, (0, 0, 0, 0), 0) := rfl
theorem s311_929 {c : Nat → List AV → SS → Option Out} {l0 l1 l2 l3 l4 l5 l6 l7 : Option AV} {x y : Int32} {L2 : List (Nat × AV)} {St : List AV} {S : SS} : ev c 311 929 [l0, l1, l2, l3, l4, l5, l6, l7] L2 (aI y :: aI x :: St) S = ev c 311 930 [l0, l1, l2, l3, l4, l5, l6, l7] L2 (aI (x + y) :: St) S := ev_go i311_929 rfl
theorem i311_930 : insAt 311 930 = some (.iaload, 1, (0, 0, 0, 0), 0) := rfl
theorem s311_930 {c : Nat → List AV → SS → Option Out} {l0 l1 l2 l3 l4 l5 l6 l7 : Option AV} {i : Int32} {o : OId} {L2 : List (Nat × AV)} {St : List AV} {S : SS} : ev c 311 930 [l0, l1, l2, l3, l4, l5, l6, l7] L2 (aI i :: aR o :: St) S = kI o i (ev c 311 931 [l0, l1, l2, l3, l4, l5, l6, l7] L2 (aI (agI S o i.toNatClampNeg) :: St) S) := ev_iaload i311_930
theorem i311_931 : insAt 311 931 = some (.invokevirtual 205, 3, (264, 1, 2, 12), 471) := rfl
theorem s311_931 {c : Nat → List AV → SS → Option Out} {l0 l1 l2 l3 l4 l5 l6 l7 : Option AV} {a0 : Int32} {j t : Nat} {L2 : List (Nat × AV)} {S : SS} : ev c 311 931 [l0, l1, l2, l3, l4, l5, l6, l7] L2 [aI a0, aR (12, j, t)] S = ck (c 264 [aR (12, j, t), aI a0] S) (fun v S' => ev c 311 934 [l0, l1, l2, l3, l4, l5, l6, l7] L2 (v.toList ++ []) S') := ev_call i311_931 rfl
theorem i311_934 : insAt 311 934 = some (.istore 7, 2, (0, 0, 0, 0), 0) := rfl
theorem s311_934 {c : Nat → List AV → SS → Option Out} {l0 l1 l2 l3 l4 l5 l6 l7 : Option AV} {x : Int32} {L2 : List (Nat × AV)} {St : List AV} {S : SS} : ev c 311 934 [l0, l1, l2, l3, l4, l5, l6, l7] L2 (aI x :: St) S = ev c 311 936 [l0, l1, l2, l3, l4, l5, l6, some (aI x)] (kil L2 7) St S := ev_go i311_934 rfl
theorem i311_936 : insAt 311 936 = some (.aload_n 2, 1, (0, 0, 0, 0), 0) := rfl
theorem s311_936 {c : Nat → List AV → SS → Option Out} {l0 l1 l3 l4 l5 l6 l7 : Option AV} {o : OId} {L2 : List (Nat × AV)} {St : List AV} {S : SS} : ev c 311 936 [l0, l1, some (aR o), l3, l4, l5, l6, l7] L2 St S = ev c 311 937 [l0, l1, some (aR o), l3, l4, l5, l6, l7] L2 (aR o :: St) S := ev_go i311_936 rfl
theorem i311_937 : insAt 311 937 = some (.invokevirtual 149, 3, (215, 0, 2, 12), 441) := rfl
theorem s311_937 {c : Nat → List AV → SS → Option Out} {l0 l1 l2 l3 l4 l5 l6 l7 : Option AV} {j t : Nat} {L2 : List (Nat × AV)} {S : SS} : ev c 311 937 [l0, l1, l2, l3, l4, l5, l6, l7] L2 [aR (12, j, t)] S = ck (c 215 [aR (12, j, t)] S) (fun v S' => ev c 311 940 [l0, l1, l2, l3, l4, l5, l6, l7] L2 (v.toList ++ []) S') := ev_call i311_937 rfl
theorem i311_940 : insAt 311 940 = some (.iload 6, 2, (0, 0, 0, 0), 0) := rfl
theorem s311_940 {c : Nat → List AV → SS → Option Out} {l0 l1 l2 l3 l4 l5 l7 : Option AV} {x : Int32} {L2 : List (Nat × AV)} {St : List AV} {S : SS} : ev c 311 940 [l0, l1, l2, l3, l4, l5, some (aI x), l7] L2 St S = ev c 311 942 [l0, l1, l2, l3, l4, l5, some (aI x), l7] L2 (aI x :: St) S := ev_go i311_940 rfl
theorem i311_942 : insAt 311 942 = some (.if_icmp .eq 5, 3, (0, 0, 0, 0), 0) := rfl
theorem s311_942 {c : Nat → List AV → SS → Option Out} {l0 l1 l2 l3 l4 l5 l6 l7 : Option AV} {x y : Int32} {L2 : List (Nat × AV)} {St : List AV} {S : SS} : ev c 311 942 [l0, l1, l2, l3, l4, l5, l6, l7] L2 (aI y :: aI x :: St) S = if x = y then ev c 311 947 [l0, l1, l2, l3, l4, l5, l6, l7] L2 St S else ev c 311 945 [l0, l1, l2, l3, l4, l5, l6, l7] L2 St S := ev_br i311_942 rfl
theorem i311_945 : insAt 311 945 = some (.iconst 0, 1, (0, 0, 0, 0), 0) := rfl
theorem s311_945 {c : Nat → List AV → SS → Option Out} {l0 l1 l2 l3 l4 l5 l6 l7 : Option AV} {L2 : List (Nat × AV)} {St : List AV} {S : SS} : ev c 311 945 [l0, l1, l2, l3, l4, l5, l6, l7] L2 St S = ev c 311 946 [l0, l1, l2, l3, l4, l5, l6, l7] L2 (aI 0 :: St) S := ev_go i311_945 rfl
theorem i311_946 : insAt 311 946 = some (.ireturn, 1, (0, 0, 0, 0), 0) := rfl
theorem s311_946 {c : Nat → List AV → SS → Option Out} {l0 l1 l2 l3 l4 l5 l6 l7 : Option AV} {x : Int32} {L2 : List (Nat × AV)} {S : SS} : ev c 311 946 [l0, l1, l2, l3, l4, l5, l6, l7] L2 [aI x] S = if x = 0 ∨ x = 1 then some (.inl (some (aI x)), S) else none := ev_rt i311_946 rfl
theorem i311_947 : insAt 311 947 = some (.iload 6, 2, (0, 0, 0, 0), 0) := rfl
theorem s311_947 {c : Nat → List AV → SS → Option Out} {l0 l1 l2 l3 l4 l5 l7 : Option AV} {x : Int32} {L2 : List (Nat × AV)} {St : List AV} {S : SS} : ev c 311 947 [l0, l1, l2, l3, l4, l5, some (aI x), l7] L2 St S = ev c 311 949 [l0, l1, l2, l3, l4, l5, some (aI x), l7] L2 (aI x :: St) S := ev_go i311_947 rfl
theorem i311_949 : insAt 311 949 = some (.ifCond .ne 15, 3, (0, 0, 0, 0), 0) := rfl
theorem s311_949 {c : Nat → List AV → SS → Option Out} {l0 l1 l2 l3 l4 l5 l6 l7 : Option AV} {x : Int32} {L2 : List (Nat × AV)} {St : List AV} {S : SS} : ev c 311 949 [l0, l1, l2, l3, l4, l5, l6, l7] L2 (aI x :: St) S = if x = 0 then ev c 311 952 [l0, l1, l2, l3, l4, l5, l6, l7] L2 St S else ev c 311 964 [l0, l1, l2, l3, l4, l5, l6, l7] L2 St S := (ev_br i311_949 rfl).trans (ite_not _ _ _)
theorem i311_952 : insAt 311 952 = some (.aload_n 3, 1, (0, 0, 0, 0), 0) := rfl
theorem s311_952 {c : Nat → List AV → SS → Option Out} {l0 l1 l2 l4 l5 l6 l7 : Option AV} {o : OId} {L2 : List (Nat × AV)} {St : List AV} {S : SS} : ev c 311 952 [l0, l1, l2, some (aR o), l4, l5, l6, l7] L2 St S = ev c 311 953 [l0, l1, l2, some (aR o), l4, l5, l6, l7] L2 (aR o :: St) S := ev_go i311_952 rfl
theorem i311_953 : insAt 311 953 = some (.iconst 0, 1, (0, 0, 0, 0), 0) := rfl
theorem s311_953 {c : Nat → List AV → SS → Option Out} {l0 l1 l2 l3 l4 l5 l6 l7 : Option AV} {L2 : List (Nat × AV)} {St : List AV} {S : SS} : ev c 311 953 [l0, l1, l2, l3, l4, l5, l6, l7] L2 St S = ev c 311 954 [l0, l1, l2, l3, l4, l5, l6, l7] L2 (aI 0 :: St) S := ev_go i311_953 rfl
theorem i311_954 : insAt 311 954 = some (.laload, 1, (0, 0, 0, 0), 0) := rfl
theorem s311_954 {c : Nat → List AV → SS → Option Out} {l0 l1 l2 l3 l4 l5 l6 l7 : Option AV} {i : Int32} {o : OId} {L2 : List (Nat × AV)} {St : List AV} {S : SS} : ev c 311 954 [l0, l1, l2, l3, l4, l5, l6, l7] L2 (aI i :: aR o :: St) S = kJ o i (ev c 311 955 [l0, l1, l2, l3, l4, l5, l6, l7] L2 (aL (toL (S.2.1 o i.toNatClampNeg)) :: St) S) := ev_laload i311_954
theorem i311_955 : insAt 311 955 = some (.iload 7, 2, (0, 0, 0, 0), 0) := rfl
theorem s311_955 {c : Nat → List AV → SS → Option Out} {l0 l1 l2 l3 l4 l5 l6 : Option AV} {x : Int32} {L2 : List (Nat × AV)} {St : List AV} {S : SS} : ev c 311 955 [l0, l1, l2, l3, l4, l5, l6, some (aI x)] L2 St S = ev c 311 957 [l0, l1, l2, l3, l4, l5, l6, some (aI x)] L2 (aI x :: St) S := ev_go i311_955 rfl
theorem i311_957 : insAt 311 957 = some (.i2l, 1, (0, 0, 0, 0), 0) := rfl
theorem s311_957 {c : Nat → List AV → SS → Option Out} {l0 l1 l2 l3 l4 l5 l6 l7 : Option AV} {x : Int32} {L2 : List (Nat × AV)} {St : List AV} {S : SS} : ev c 311 957 [l0, l1, l2, l3, l4, l5, l6, l7] L2 (aI x :: St) S = ev c 311 958 [l0, l1, l2, l3, l4, l5, l6, l7] L2 (aL x.toInt64 :: St) S := ev_go i311_957 rfl
theorem i311_958 : insAt 311 958 = some (.lcmp, 1, (0, 0, 0, 0), 0) := rfl
theorem s311_958 {c : Nat → List AV → SS → Option Out} {l0 l1 l2 l3 l4 l5 l6 l7 : Option AV} {x y : Int64} {L2 : List (Nat × AV)} {St : List AV} {S : SS} : ev c 311 958 [l0, l1, l2, l3, l4, l5, l6, l7] L2 (aL y :: aL x :: St) S = ev c 311 959 [l0, l1, l2, l3, l4, l5, l6, l7] L2 (aI (if x < y then -1 else if x = y then 0 else 1) :: St) S := ev_go i311_958 rfl
theorem i311_959 : insAt 311 959 = some (.ifCond .eq 5, 3, (0, 0, 0, 0), 0) := rfl
theorem s311_959 {c : Nat → List AV → SS → Option Out} {l0 l1 l2 l3 l4 l5 l6 l7 : Option AV} {x : Int32} {L2 : List (Nat × AV)} {St : List AV} {S : SS} : ev c 311 959 [l0, l1, l2, l3, l4, l5, l6, l7] L2 (aI x :: St) S = if x = 0 then ev c 311 964 [l0, l1, l2, l3, l4, l5, l6, l7] L2 St S else ev c 311 962 [l0, l1, l2, l3, l4, l5, l6, l7] L2 St S := ev_br i311_959 rfl
theorem i311_962 : insAt 311 962 = some (.iconst 0, 1, (0, 0, 0, 0), 0) := rfl
theorem s311_962 {c : Nat → List AV → SS → Option Out} {l0 l1 l2 l3 l4 l5 l6 l7 : Option AV} {L2 : List (Nat × AV)} {St : List AV} {S : SS} : ev c 311 962 [l0, l1, l2, l3, l4, l5, l6, l7] L2 St S = ev c 311 963 [l0, l1, l2, l3, l4, l5, l6, l7] L2 (aI 0 :: St) S := ev_go i311_962 rfl
theorem i311_963 : insAt 311 963 = some (.ireturn, 1, (0, 0, 0, 0), 0) := rfl
theorem s311_963 {c : Nat → List AV → SS → Option Out} {l0 l1 l2 l3 l4 l5 l6 l7 : Option AV} {x : Int32} {L2 : List (Nat × AV)} {S : SS} : ev c 311 963 [l0, l1, l2, l3, l4, l5, l6, l7] L2 [aI x] S = if x = 0 ∨ x = 1 then some (.inl (some (aI x)), S) else none := ev_rt i311_963 rfl
theorem i311_964 : insAt 311 964 = some (.goto 1835, 3, (0, 0, 0, 0), 0) := rfl
theorem s311_964 {c : Nat → List AV → SS → Option Out} {l0 l1 l2 l3 l4 l5 l6 l7 : Option AV} {L2 : List (Nat × AV)} {St : List AV} {S : SS} : ev c 311 964 [l0, l1, l2, l3, l4, l5, l6, l7] L2 St S = ev c 311 2799 [l0, l1, l2, l3, l4, l5, l6, l7] L2 St S := ev_go i311_964 rfl
theorem i311_967 : insAt 311 967 = some (.aload_n 1, 1, (0, 0, 0, 0), 0) := rfl
theorem s311_967 {c : Nat → List AV → SS → Option Out} {l0 l2 l3 l4 l5 l6 l7 : Option AV} {o : OId} {L2 : List (Nat × AV)} {St : List AV} {S : SS} : ev c 311 967 [l0, some (aR o), l2, l3, l4, l5, l6, l7] L2 St S = ev c 311 968 [l0, some (aR o), l2, l3, l4, l5, l6, l7] L2 (aR o :: St) S := ev_go i311_967 rfl
theorem i311_968 : insAt 311 968 = some (.aload_n 0, 1, (0, 0, 0, 0), 0) := rfl
theorem s311_968 {c : Nat → List AV → SS → Option Out} {l1 l2 l3 l4 l5 l6 l7 : Option AV} {o : OId} {L2 : List (Nat × AV)} {St : List AV} {S : SS} : ev c 311 968 [some (aR o), l1, l2, l3, l4, l5, l6, l7] L2 St S = ev c 311 969 [some (aR o), l1, l2, l3, l4, l5, l6, l7] L2 (aR o :: St) S := ev_go i311_968 rfl
theorem i311_969 : insAt 311 969 = some (.iload 5, 2, (0, 0, 0, 0), 0) := rfl
theorem s311_969 {c : Nat → List AV → SS → Option Out} {l0 l1 l2 l3 l4 l6 l7 : Option AV} {x : Int32} {L2 : List (Nat × AV)} {St : List AV} {S : SS} : ev c 311 969 [l0, l1, l2, l3, l4, some (aI x), l6, l7] L2 St S = ev c 311 971 [l0, l1, l2, l3, l4, some (aI x), l6, l7] L2 (aI x :: St) S := ev_go i311_969 rfl
theorem i311_971 : insAt 311 971 = some (.iconst 1, 1, (0, 0, 0, 0), 0) := rfl
theorem s311_971 {c : Nat → List AV → SS → Option Out} {l0 l1 l2 l3 l4 l5 l6 l7 : Option AV} {L2 : List (Nat × AV)} {St : List AV} {S : SS} : ev c 311 971 [l0, l1, l2, l3, l4, l5, l6, l7] L2 St S = ev c 311 972 [l0, l1, l2, l3, l4, l5, l6, l7] L2 (aI 1 :: St) S := ev_go i311_971 rfl
theorem i311_972 : insAt 311 972 = some (.iadd, 1, (0, 0, 0, 0), 0) := rfl
theorem s311_972 {c : Nat → List AV → SS → Option Out} {l0 l1 l2 l3 l4 l5 l6 l7 : Option AV} {x y : Int32} {L2 : List (Nat × AV)} {St : List AV} {S : SS} : ev c 311 972 [l0, l1, l2, l3, l4, l5, l6, l7] L2 (aI y :: aI x :: St) S = ev c 311 973 [l0, l1, l2, l3, l4, l5, l6, l7] L2 (aI (x + y) :: St) S := ev_go i311_972 rfl
theorem i311_973 : insAt 311 973 = some (.iaload, 1, (0, 0, 0, 0), 0) := rfl
theorem s311_973 {c : Nat → List AV → SS → Option Out} {l0 l1 l2 l3 l4 l5 l6 l7 : Option AV} {i : Int32} {o : OId} {L2 : List (Nat × AV)} {St : List AV} {S : SS} : ev c 311 973 [l0, l1, l2, l3, l4, l5, l6, l7] L2 (aI i :: aR o :: St) S = kI o i (ev c 311 974 [l0, l1, l2, l3, l4, l5, l6, l7] L2 (aI (agI S o i.toNatClampNeg) :: St) S) := ev_iaload i311_973
theorem i311_974 : insAt 311 974 = some (.aload_n 3, 1, (0, 0, 0, 0), 0) := rfl
theorem s311_974 {c : Nat → List AV → SS → Option Out} {l0 l1 l2 l4 l5 l6 l7 : Option AV} {o : OId} {L2 : List (Nat × AV)} {St : List AV} {S : SS} : ev c 311 974 [l0, l1, l2, some (aR o), l4, l5, l6, l7] L2 St S = ev c 311 975 [l0, l1, l2, some (aR o), l4, l5, l6, l7] L2 (aR o :: St) S := ev_go i311_974 rfl
theorem i311_975 : insAt 311 975 = some (.invokestatic 206, 3, (106, 3, 0, 0), 472) := rfl
theorem s311_975 {c : Nat → List AV → SS → Option Out} {l0 l1 l2 l3 l4 l5 l6 l7 : Option AV} {a0 : OId} {a1 : Int32} {a2 : OId} {L2 : List (Nat × AV)} {S : SS} : ev c 311 975 [l0, l1, l2, l3, l4, l5, l6, l7] L2 [aR a2, aI a1, aR a0] S = ck (c 106 [aR a0, aI a1, aR a2] S) (fun v S' => ev c 311 978 [l0, l1, l2, l3, l4, l5, l6, l7] L2 (v.toList ++ []) S') := ev_call i311_975 rfl
theorem i311_978 : insAt 311 978 = some (.istore 6, 2, (0, 0, 0, 0), 0) := rfl
theorem s311_978 {c : Nat → List AV → SS → Option Out} {l0 l1 l2 l3 l4 l5 l6 l7 : Option AV} {x : Int32} {L2 : List (Nat × AV)} {St : List AV} {S : SS} : ev c 311 978 [l0, l1, l2, l3, l4, l5, l6, l7] L2 (aI x :: St) S = ev c 311 980 [l0, l1, l2, l3, l4, l5, some (aI x), l7] (kil L2 6) St S := ev_go i311_978 rfl
theorem i311_980 : insAt 311 980 = some (.aload_n 2, 1, (0, 0, 0, 0), 0) := rfl
theorem s311_980 {c : Nat → List AV → SS → Option Out} {l0 l1 l3 l4 l5 l6 l7 : Option AV} {o : OId} {L2 : List (Nat × AV)} {St : List AV} {S : SS} : ev c 311 980 [l0, l1, some (aR o), l3, l4, l5, l6, l7] L2 St S = ev c 311 981 [l0, l1, some (aR o), l3, l4, l5, l6, l7] L2 (aR o :: St) S := ev_go i311_980 rfl
theorem i311_981 : insAt 311 981 = some (.aload_n 0, 1, (0, 0, 0, 0), 0) := rfl
theorem s311_981 {c : Nat → List AV → SS → Option Out} {l1 l2 l3 l4 l5 l6 l7 : Option AV} {o : OId} {L2 : List (Nat × AV)} {St : List AV} {S : SS} : ev c 311 981 [some (aR o), l1, l2, l3, l4, l5, l6, l7] L2 St S = ev c 311 982 [some (aR o), l1, l2, l3, l4, l5, l6, l7] L2 (aR o :: St) S := ev_go i311_981 rfl
theorem i311_982 : insAt 311 982 = some (.iload 5, 2, (0, 0, 0, 0), 0) := rfl
theorem s311_982 {c : Nat → List AV → SS → Option Out} {l0 l1 l2 l3 l4 l6 l7 : Option AV} {x : Int32} {L2 : List (Nat × AV)} {St : List AV} {S : SS} : ev c 311 982 [l0, l1, l2, l3, l4, some (aI x), l6, l7] L2 St S = ev c 311 984 [l0, l1, l2, l3, l4, some (aI x), l6, l7] L2 (aI x :: St) S := ev_go i311_982 rfl
theorem i311_984 : insAt 311 984 = some (.iconst 1, 1, (0, 0, 0, 0), 0) := rfl
theorem s311_984 {c : Nat → List AV → SS → Option Out} {l0 l1 l2 l3 l4 l5 l6 l7 : Option AV} {L2 : List (Nat × AV)} {St : List AV} {S : SS} : ev c 311 984 [l0, l1, l2, l3, l4, l5, l6, l7] L2 St S = ev c 311 985 [l0, l1, l2, l3, l4, l5, l6, l7] L2 (aI 1 :: St) S := ev_go i311_984 rfl
theorem i311_985 : insAt 311 985 = some (.iadd, 1, (0, 0, 0, 0), 0) := rfl
theorem s311_985 {c : Nat → List AV → SS → Option Out} {l0 l1 l2 l3 l4 l5 l6 l7 : Option AV} {x y : Int32} {L2 : List (Nat × AV)} {St : List AV} {S : SS} : ev c 311 985 [l0, l1, l2, l3, l4, l5, l6, l7] L2 (aI y :: aI x :: St) S = ev c 311 986 [l0, l1, l2, l3, l4, l5, l6, l7] L2 (aI (x + y) :: St) S := ev_go i311_985 rfl
theorem i311_986 : insAt 311 986 = some (.iaload, 1, (0, 0, 0, 0), 0) := rfl
theorem s311_986 {c : Nat → List AV → SS → Option Out} {l0 l1 l2 l3 l4 l5 l6 l7 : Option AV} {i : Int32} {o : OId} {L2 : List (Nat × AV)} {St : List AV} {S : SS} : ev c 311 986 [l0, l1, l2, l3, l4, l5, l6, l7] L2 (aI i :: aR o :: St) S = kI o i (ev c 311 987 [l0, l1, l2, l3, l4, l5, l6, l7] L2 (aI (agI S o i.toNatClampNeg) :: St) S) := ev_iaload i311_986
theorem i311_987 : insAt 311 987 = some (.invokevirtual 208, 3, (266, 1, 2, 12), 473) := rfl
theorem s311_987 {c : Nat → List AV → SS → Option Out} {l0 l1 l2 l3 l4 l5 l6 l7 : Option AV} {a0 : Int32} {j t : Nat} {L2 : List (Nat × AV)} {S : SS} : ev c 311 987 [l0, l1, l2, l3, l4, l5, l6, l7] L2 [aI a0, aR (12, j, t)] S = ck (c 266 [aR (12, j, t), aI a0] S) (fun v S' => ev c 311 990 [l0, l1, l2, l3, l4, l5, l6, l7] L2 (v.toList ++ []) S') := ev_call i311_987 rfl
theorem i311_990 : insAt 311 990 = some (.istore 7, 2, (0, 0, 0, 0), 0) := rfl
theorem s311_990 {c : Nat → List AV → SS → Option Out} {l0 l1 l2 l3 l4 l5 l6 l7 : Option AV} {x : Int32} {L2 : List (Nat × AV)} {St : List AV} {S : SS} : ev c 311 990 [l0, l1, l2, l3, l4, l5, l6, l7] L2 (aI x :: St) S = ev c 311 992 [l0, l1, l2, l3, l4, l5, l6, some (aI x)] (kil L2 7) St S := ev_go i311_990 rfl
theorem i311_992 : insAt 311 992 = some (.aload_n 2, 1, (0, 0, 0, 0), 0) := rfl
theorem s311_992 {c : Nat → List AV → SS → Option Out} {l0 l1 l3 l4 l5 l6 l7 : Option AV} {o : OId} {L2 : List (Nat × AV)} {St : List AV} {S : SS} : ev c 311 992 [l0, l1, some (aR o), l3, l4, l5, l6, l7] L2 St S = ev c 311 993 [l0, l1, some (aR o), l3, l4, l5, l6, l7] L2 (aR o :: St) S := ev_go i311_992 rfl
theorem i311_993 : insAt 311 993 = some (.invokevirtual 149, 3, (215, 0, 2, 12), 441) := rfl
theorem s311_993 {c : Nat → List AV → SS → Option Out} {l0 l1 l2 l3 l4 l5 l6 l7 : Option AV} {j t : Nat} {L2 : List (Nat × AV)} {S : SS} : ev c 311 993 [l0, l1, l2, l3, l4, l5, l6, l7] L2 [aR (12, j, t)] S = ck (c 215 [aR (12, j, t)] S) (fun v S' => ev c 311 996 [l0, l1, l2, l3, l4, l5, l6, l7] L2 (v.toList ++ []) S') := ev_call i311_993 rfl
theorem i311_996 : insAt 311 996 = some (.iload 6, 2, (0, 0, 0, 0), 0) := rfl
theorem s311_996 {c : Nat → List AV → SS → Option Out} {l0 l1 l2 l3 l4 l5 l7 : Option AV} {x : Int32} {L2 : List (Nat × AV)} {St : List AV} {S : SS} : ev c 311 996 [l0, l1, l2, l3, l4, l5, some (aI x), l7] L2 St S = ev c 311 998 [l0, l1, l2, l3, l4, l5, some (aI x), l7] L2 (aI x :: St) S := ev_go i311_996 rfl
theorem i311_998 : insAt 311 998 = some (.if_icmp .eq 5, 3, (0, 0, 0, 0), 0) := rfl
theorem s311_998 {c : Nat → List AV → SS → Option Out} {l0 l1 l2 l3 l4 l5 l6 l7 : Option AV} {x y : Int32} {L2 : List (Nat × AV)} {St : List AV} {S : SS} : ev c 311 998 [l0, l1, l2, l3, l4, l5, l6, l7] L2 (aI y :: aI x :: St) S = if x = y then ev c 311 1003 [l0, l1, l2, l3, l4, l5, l6, l7] L2 St S else ev c 311 1001 [l0, l1, l2, l3, l4, l5, l6, l7] L2 St S := ev_br i311_998 rfl
theorem i311_1001 : insAt 311 1001 = some (.iconst 0, 1, (0, 0, 0, 0), 0) := rfl
theorem s311_1001 {c : Nat → List AV → SS → Option Out} {l0 l1 l2 l3 l4 l5 l6 l7 : Option AV} {L2 : List (Nat × AV)} {St : List AV} {S : SS} : ev c 311 1001 [l0, l1, l2, l3, l4, l5, l6, l7] L2 St S = ev c 311 1002 [l0, l1, l2, l3, l4, l5, l6, l7] L2 (aI 0 :: St) S := ev_go i311_1001 rfl
theorem i311_1002 : insAt 311 1002 = some (.ireturn, 1, (0, 0, 0, 0), 0) := rfl
theorem s311_1002 {c : Nat → List AV → SS → Option Out} {l0 l1 l2 l3 l4 l5 l6 l7 : Option AV} {x : Int32} {L2 : List (Nat × AV)} {S : SS} : ev c 311 1002 [l0, l1, l2, l3, l4, l5, l6, l7] L2 [aI x] S = if x = 0 ∨ x = 1 then some (.inl (some (aI x)), S) else none := ev_rt i311_1002 rfl
theorem i311_1003 : insAt 311 1003 = some (.iload 6, 2, (0, 0, 0, 0), 0) := rfl
theorem s311_1003 {c : Nat → List AV → SS → Option Out} {l0 l1 l2 l3 l4 l5 l7 : Option AV} {x : Int32} {L2 : List (Nat × AV)} {St : List AV} {S : SS} : ev c 311 1003 [l0, l1, l2, l3, l4, l5, some (aI x), l7] L2 St S = ev c 311 1005 [l0, l1, l2, l3, l4, l5, some (aI x), l7] L2 (aI x :: St) S := ev_go i311_1003 rfl
theorem i311_1005 : insAt 311 1005 = some (.ifCond .ne 15, 3, (0, 0, 0, 0), 0) := rfl
theorem s311_1005 {c : Nat → List AV → SS → Option Out} {l0 l1 l2 l3 l4 l5 l6 l7 : Option AV} {x : Int32} {L2 : List (Nat × AV)} {St : List AV} {S : SS} : ev c 311 1005 [l0, l1, l2, l3, l4, l5, l6, l7] L2 (aI x :: St) S = if x = 0 then ev c 311 1008 [l0, l1, l2, l3, l4, l5, l6, l7] L2 St S else ev c 311 1020 [l0, l1, l2, l3, l4, l5, l6, l7] L2 St S := (ev_br i311_1005 rfl).trans (ite_not _ _ _)
theorem i311_1008 : insAt 311 1008 = some (.aload_n 3, 1, (0, 0, 0, 0), 0) := rfl
theorem s311_1008 {c : Nat → List AV → SS → Option Out} {l0 l1 l2 l4 l5 l6 l7 : Option AV} {o : OId} {L2 : List (Nat × AV)} {St : List AV} {S : SS} : ev c 311 1008 [l0, l1, l2, some (aR o), l4, l5, l6, l7] L2 St S = ev c 311 1009 [l0, l1, l2, some (aR o), l4, l5, l6, l7] L2 (aR o :: St) S := ev_go i311_1008 rfl
theorem i311_1009 : insAt 311 1009 = some (.iconst 0, 1, (0, 0, 0, 0), 0) := rfl
theorem s311_1009 {c : Nat → List AV → SS → Option Out} {l0 l1 l2 l3 l4 l5 l6 l7 : Option AV} {L2 : List (Nat × AV)} {St : List AV} {S : SS} : ev c 311 1009 [l0, l1, l2, l3, l4, l5, l6, l7] L2 St S = ev c 311 1010 [l0, l1, l2, l3, l4, l5, l6, l7] L2 (aI 0 :: St) S := ev_go i311_1009 rfl
theorem i311_1010 : insAt 311 1010 = some (.laload, 1, (0, 0, 0, 0), 0) := rfl
theorem s311_1010 {c : Nat → List AV → SS → Option Out} {l0 l1 l2 l3 l4 l5 l6 l7 : Option AV} {i : Int32} {o : OId} {L2 : List (Nat × AV)} {St : List AV} {S : SS} : ev c 311 1010 [l0, l1, l2, l3, l4, l5, l6, l7] L2 (aI i :: aR o :: St) S = kJ o i (ev c 311 1011 [l0, l1, l2, l3, l4, l5, l6, l7] L2 (aL (toL (S.2.1 o i.toNatClampNeg)) :: St) S) := ev_laload i311_1010
theorem i311_1011 : insAt 311 1011 = some (.iload 7, 2, (0, 0, 0, 0), 0) := rfl
theorem s311_1011 {c : Nat → List AV → SS → Option Out} {l0 l1 l2 l3 l4 l5 l6 : Option AV} {x : Int32} {L2 : List (Nat × AV)} {St : List AV} {S : SS} : ev c 311 1011 [l0, l1, l2, l3, l4, l5, l6, some (aI x)] L2 St S = ev c 311 1013 [l0, l1, l2, l3, l4, l5, l6, some (aI x)] L2 (aI x :: St) S := ev_go i311_1011 rfl
theorem i311_1013 : insAt 311 1013 = some (.i2l, 1, (0, 0, 0, 0), 0) := rfl
theorem s311_1013 {c : Nat → List AV → SS → Option Out} {l0 l1 l2 l3 l4 l5 l6 l7 : Option AV} {x : Int32} {L2 : List (Nat × AV)} {St : List AV} {S : SS} : ev c 311 1013 [l0, l1, l2, l3, l4, l5, l6, l7] L2 (aI x :: St) S = ev c 311 1014 [l0, l1, l2, l3, l4, l5, l6, l7] L2 (aL x.toInt64 :: St) S := ev_go i311_1013 rfl
theorem i311_1014 : insAt 311 1014 = some (.lcmp, 1, (0, 0, 0, 0), 0) := rfl
theorem s311_1014 {c : Nat → List AV → SS → Option Out} {l0 l1 l2 l3 l4 l5 l6 l7 : Option AV} {x y : Int64} {L2 : List (Nat × AV)} {St : List AV} {S : SS} : ev c 311 1014 [l0, l1, l2, l3, l4, l5, l6, l7] L2 (aL y :: aL x :: St) S = ev c 311 1015 [l0, l1, l2, l3, l4, l5, l6, l7] L2 (aI (if x < y then -1 else if x = y then 0 else 1) :: St) S := ev_go i311_1014 rfl
theorem i311_1015 : insAt 311 1015 = some (.ifCond .eq 5, 3, (0, 0, 0, 0), 0) := rfl
theorem s311_1015 {c : Nat → List AV → SS → Option Out} {l0 l1 l2 l3 l4 l5 l6 l7 : Option AV} {x : Int32} {L2 : List (Nat × AV)} {St : List AV} {S : SS} : ev c 311 1015 [l0, l1, l2, l3, l4, l5, l6, l7] L2 (aI x :: St) S = if x = 0 then ev c 311 1020 [l0, l1, l2, l3, l4, l5, l6, l7] L2 St S else ev c 311 1018 [l0, l1, l2, l3, l4, l5, l6, l7] L2 St S := ev_br i311_1015 rfl
theorem i311_1018 : insAt 311 1018 = some (.iconst 0, 1, (0, 0, 0, 0), 0) := rfl
theorem s311_1018 {c : Nat → List AV → SS → Option Out} {l0 l1 l2 l3 l4 l5 l6 l7 : Option AV} {L2 : List (Nat × AV)} {St : List AV} {S : SS} : ev c 311 1018 [l0, l1, l2, l3, l4, l5, l6, l7] L2 St S = ev c 311 1019 [l0, l1, l2, l3, l4, l5, l6, l7] L2 (aI 0 :: St) S := ev_go i311_1018 rfl
theorem i311_1019 : insAt 311 1019 = some (.ireturn, 1, (0, 0, 0, 0), 0) := rfl
theorem s311_1019 {c : Nat → List AV → SS → Option Out} {l0 l1 l2 l3 l4 l5 l6 l7 : Option AV} {x : Int32} {L2 : List (Nat × AV)} {S : SS} : ev c 311 1019 [l0, l1, l2, l3, l4, l5, l6, l7] L2 [aI x] S = if x = 0 ∨ x = 1 then some (.inl (some (aI x)), S) else none := ev_rt i311_1019 rfl
theorem i311_1020 : insAt 311 1020 = some (.goto 1779, 3, (0, 0, 0, 0), 0) := rfl
theorem s311_1020 {c : Nat → List AV → SS → Option Out} {l0 l1 l2 l3 l4 l5 l6 l7 : Option AV} {L2 : List (Nat × AV)} {St : List AV} {S : SS} : ev c 311 1020 [l0, l1, l2, l3, l4, l5, l6, l7] L2 St S = ev c 311 2799 [l0, l1, l2, l3, l4, l5, l6, l7] L2 St S := ev_go i311_1020 rfl
theorem i311_1023 : insAt 311 1023 = some (.aload_n 1, 1, (0, 0, 0, 0), 0) := rfl
theorem s311_1023 {c : Nat → List AV → SS → Option Out} {l0 l2 l3 l4 l5 l6 l7 : Option AV} {o : OId} {L2 : List (Nat × AV)} {St : List AV} {S : SS} : ev c 311 1023 [l0, some (aR o), l2, l3, l4, l5, l6, l7] L2 St S = ev c 311 1024 [l0, some (aR o), l2, l3, l4, l5, l6, l7] L2 (aR o :: St) S := ev_go i311_1023 rfl
theorem i311_1024 : insAt 311 1024 = some (.aload_n 0, 1, (0, 0, 0, 0), 0) := rfl
theorem s311_1024 {c : Nat → List AV → SS → Option Out} {l1 l2 l3 l4 l5 l6 l7 : Option AV} {o : OId} {L2 : List (Nat × AV)} {St : List AV} {S : SS} : ev c 311 1024 [some (aR o), l1, l2, l3, l4, l5, l6, l7] L2 St S = ev c 311 1025 [some (aR o), l1, l2, l3, l4, l5, l6, l7] L2 (aR o :: St) S := ev_go i311_1024 rfl
theorem i311_1025 : insAt 311 1025 = some (.iload 5, 2, (0, 0, 0, 0), 0) := rfl
theorem s311_1025 {c : Nat → List AV → SS → Option Out} {l0 l1 l2 l3 l4 l6 l7 : Option AV} {x : Int32} {L2 : List (Nat × AV)} {St : List AV} {S : SS} : ev c 311 1025 [l0, l1, l2, l3, l4, some (aI x), l6, l7] L2 St S = ev c 311 1027 [l0, l1, l2, l3, l4, some (aI x), l6, l7] L2 (aI x :: St) S := ev_go i311_1025 rfl
theorem i311_1027 : insAt 311 1027 = some (.iconst 1, 1, (0, 0, 0, 0), 0) := rfl
theorem s311_1027 {c : Nat → List AV → SS → Option Out} {l0 l1 l2 l3 l4 l5 l6 l7 : Option AV} {L2 : List (Nat × AV)} {St : List AV} {S : SS} : ev c 311 1027 [l0, l1, l2, l3, l4, l5, l6, l7] L2 St S = ev c 311 1028 [l0, l1, l2, l3, l4, l5, l6, l7] L2 (aI 1 :: St) S := ev_go i311_1027 rfl
theorem i311_1028 : insAt 311 1028 = some (.iadd, 1, (0, 0, 0, 0), 0) := rfl
theorem s311_1028 {c : Nat → List AV → SS → Option Out} {l0 l1 l2 l3 l4 l5 l6 l7 : Option AV} {x y : Int32} {L2 : List (Nat × AV)} {St : List AV} {S : SS} : ev c 311 1028 [l0, l1, l2, l3, l4, l5, l6, l7] L2 (aI y :: aI x :: St) S = ev c 311 1029 [l0, l1, l2, l3, l4, l5, l6, l7] L2 (aI (x + y) :: St) S := ev_go i311_1028 rfl
theorem i311_1029 : insAt 311 1029 = some (.iaload, 1, (0, 0, 0, 0), 0) := rfl
theorem s311_1029 {c : Nat → List AV → SS → Option Out} {l0 l1 l2 l3 l4 l5 l6 l7 : Option AV} {i : Int32} {o : OId} {L2 : List (Nat × AV)} {St : List AV} {S : SS} : ev c 311 1029 [l0, l1, l2, l3, l4, l5, l6, l7] L2 (aI i :: aR o :: St) S = kI o i (ev c 311 1030 [l0, l1, l2, l3, l4, l5, l6, l7] L2 (aI (agI S o i.toNatClampNeg) :: St) S) := ev_iaload i311_1029
theorem i311_1030 : insAt 311 1030 = some (.aload_n 3, 1, (0, 0, 0, 0), 0) := rfl
theorem s311_1030 {c : Nat → List AV → SS → Option Out} {l0 l1 l2 l4 l5 l6 l7 : Option AV} {o : OId} {L2 : List (Nat × AV)} {St : List AV} {S : SS} : ev c 311 1030 [l0, l1, l2, some (aR o), l4, l5, l6, l7] L2 St S = ev c 311 1031 [l0, l1, l2, some (aR o), l4, l5, l6, l7] L2 (aR o :: St) S := ev_go i311_1030 rfl
theorem i311_1031 : insAt 311 1031 = some (.invokestatic 209, 3, (108, 3, 0, 0), 474) := rfl
theorem s311_1031 {c : Nat → List AV → SS → Option Out} {l0 l1 l2 l3 l4 l5 l6 l7 : Option AV} {a0 : OId} {a1 : Int32} {a2 : OId} {L2 : List (Nat × AV)} {S : SS} : ev c 311 1031 [l0, l1, l2, l3, l4, l5, l6, l7] L2 [aR a2, aI a1, aR a0] S = ck (c 108 [aR a0, aI a1, aR a2] S) (fun v S' => ev c 311 1034 [l0, l1, l2, l3, l4, l5, l6, l7] L2 (v.toList ++ []) S') := ev_call i311_1031 rfl
theorem i311_1034 : insAt 311 1034 = some (.istore 6, 2, (0, 0, 0, 0), 0) := rfl
theorem s311_1034 {c : Nat → List AV → SS → Option Out} {l0 l1 l2 l3 l4 l5 l6 l7 : Option AV} {x : Int32} {L2 : List (Nat × AV)} {St : List AV} {S : SS} : ev c 311 1034 [l0, l1, l2, l3, l4, l5, l6, l7] L2 (aI x :: St) S = ev c 311 1036 [l0, l1, l2, l3, l4, l5, some (aI x), l7] (kil L2 6) St S := ev_go i311_1034 rfl
theorem i311_1036 : insAt 311 1036 = some (.aload_n 2, 1, (0, 0, 0, 0), 0) := rfl
theorem s311_1036 {c : Nat → List AV → SS → Option Out} {l0 l1 l3 l4 l5 l6 l7 : Option AV} {o : OId} {L2 : List (Nat × AV)} {St : List AV} {S : SS} : ev c 311 1036 [l0, l1, some (aR o), l3, l4, l5, l6, l7] L2 St S = ev c 311 1037 [l0, l1, some (aR o), l3, l4, l5, l6, l7] L2 (aR o :: St) S := ev_go i311_1036 rfl
theorem i311_1037 : insAt 311 1037 = some (.aload_n 0, 1, (0, 0, 0, 0), 0) := rfl
theorem s311_1037 {c : Nat → List AV → SS → Option Out} {l1 l2 l3 l4 l5 l6 l7 : Option AV} {o : OId} {L2 : List (Nat × AV)} {St : List AV} {S : SS} : ev c 311 1037 [some (aR o), l1, l2, l3, l4, l5, l6, l7] L2 St S = ev c 311 1038 [some (aR o), l1, l2, l3, l4, l5, l6, l7] L2 (aR o :: St) S := ev_go i311_1037 rfl
theorem i311_1038 : insAt 311 1038 = some (.iload 5, 2, (0, 0, 0, 0), 0) := rfl
theorem s311_1038 {c : Nat → List AV → SS → Option Out} {l0 l1 l2 l3 l4 l6 l7 : Option AV} {x : Int32} {L2 : List (Nat × AV)} {St : List AV} {S : SS} : ev c 311 1038 [l0, l1, l2, l3, l4, some (aI x), l6, l7] L2 St S = ev c 311 1040 [l0, l1, l2, l3, l4, some (aI x), l6, l7] L2 (aI x :: St) S := ev_go i311_1038 rfl
theorem i311_1040 : insAt 311 1040 = some (.iconst 1, 1, (0, 0, 0, 0), 0) := rfl
theorem s311_1040 {c : Nat → List AV → SS → Option Out} {l0 l1 l2 l3 l4 l5 l6 l7 : Option AV} {L2 : List (Nat × AV)} {St : List AV} {S : SS} : ev c 311 1040 [l0, l1, l2, l3, l4, l5, l6, l7] L2 St S = ev c 311 1041 [l0, l1, l2, l3, l4, l5, l6, l7] L2 (aI 1 :: St) S := ev_go i311_1040 rfl
theorem i311_1041 : insAt 311 1041 = some (.iadd, 1, (0, 0, 0, 0), 0) := rfl
theorem s311_1041 {c : Nat → List AV → SS → Option Out} {l0 l1 l2 l3 l4 l5 l6 l7 : Option AV} {x y : Int32} {L2 : List (Nat × AV)} {St : List AV} {S : SS} : ev c 311 1041 [l0, l1, l2, l3, l4, l5, l6, l7] L2 (aI y :: aI x :: St) S = ev c 311 1042 [l0, l1, l2, l3, l4, l5, l6, l7] L2 (aI (x + y) :: St) S := ev_go i311_1041 rfl
theorem i311_1042 : insAt 311 1042 = some (.iaload, 1, (0, 0, 0, 0), 0) := rfl
theorem s311_1042 {c : Nat → List AV → SS → Option Out} {l0 l1 l2 l3 l4 l5 l6 l7 : Option AV} {i : Int32} {o : OId} {L2 : List (Nat × AV)} {St : List AV} {S : SS} : ev c 311 1042 [l0, l1, l2, l3, l4, l5, l6, l7] L2 (aI i :: aR o :: St) S = kI o i (ev c 311 1043 [l0, l1, l2, l3, l4, l5, l6, l7] L2 (aI (agI S o i.toNatClampNeg) :: St) S) := ev_iaload i311_1042
theorem i311_1043 : insAt 311 1043 = some (.invokevirtual 211, 3, (268, 1, 2, 12), 475) := rfl
theorem s311_1043 {c : Nat → List AV → SS → Option Out} {l0 l1 l2 l3 l4 l5 l6 l7 : Option AV} {a0 : Int32} {j t : Nat} {L2 : List (Nat × AV)} {S : SS} : ev c 311 1043 [l0, l1, l2, l3, l4, l5, l6, l7] L2 [aI a0, aR (12, j, t)] S = ck (c 268 [aR (12, j, t), aI a0] S) (fun v S' => ev c 311 1046 [l0, l1, l2, l3, l4, l5, l6, l7] L2 (v.toList ++ []) S') := ev_call i311_1043 rfl
theorem i311_1046 : insAt 311 1046 = some (.istore 7, 2, (0, 0, 0, 0), 0) := rfl
theorem s311_1046 {c : Nat → List AV → SS → Option Out} {l0 l1 l2 l3 l4 l5 l6 l7 : Option AV} {x : Int32} {L2 : List (Nat × AV)} {St : List AV} {S : SS} : ev c 311 1046 [l0, l1, l2, l3, l4, l5, l6, l7] L2 (aI x :: St) S = ev c 311 1048 [l0, l1, l2, l3, l4, l5, l6, some (aI x)] (kil L2 7) St S := ev_go i311_1046 rfl
theorem i311_1048 : insAt 311 1048 = some (.aload_n 2, 1, (0, 0, 0, 0), 0) := rfl
theorem s311_1048 {c : Nat → List AV → SS → Option Out} {l0 l1 l3 l4 l5 l6 l7 : Option AV} {o : OId} {L2 : List (Nat × AV)} {St : List AV} {S : SS} : ev c 311 1048 [l0, l1, some (aR o), l3, l4, l5, l6, l7] L2 St S = ev c 311 1049 [l0, l1, some (aR o), l3, l4, l5, l6, l7] L2 (aR o :: St) S := ev_go i311_1048 rfl
theorem i311_1049 : insAt 311 1049 = some (.invokevirtual 149, 3, (215, 0, 2, 12), 441) := rfl
theorem s311_1049 {c : Nat → List AV → SS → Option Out} {l0 l1 l2 l3 l4 l5 l6 l7 : Option AV} {j t : Nat} {L2 : List (Nat × AV)} {S : SS} : ev c 311 1049 [l0, l1, l2, l3, l4, l5, l6, l7] L2 [aR (12, j, t)] S = ck (c 215 [aR (12, j, t)] S) (fun v S' => ev c 311 1052 [l0, l1, l2, l3, l4, l5, l6, l7] L2 (v.toList ++ []) S') := ev_call i311_1049 rfl
theorem i311_1052 : insAt 311 1052 = some (.iload 6, 2, (0, 0, 0, 0), 0) := rfl
theorem s311_1052 {c : Nat → List AV → SS → Option Out} {l0 l1 l2 l3 l4 l5 l7 : Option AV} {x : Int32} {L2 : List (Nat × AV)} {St : List AV} {S : SS} : ev c 311 1052 [l0, l1, l2, l3, l4, l5, some (aI x), l7] L2 St S = ev c 311 1054 [l0, l1, l2, l3, l4, l5, some (aI x), l7] L2 (aI x :: St) S := ev_go i311_1052 rfl
theorem i311_1054 : insAt 311 1054 = some (.if_icmp .eq 5, 3, (0, 0, 0, 0), 0) := rfl
theorem s311_1054 {c : Nat → List AV → SS → Option Out} {l0 l1 l2 l3 l4 l5 l6 l7 : Option AV} {x y : Int32} {L2 : List (Nat × AV)} {St : List AV} {S : SS} : ev c 311 1054 [l0, l1, l2, l3, l4, l5, l6, l7] L2 (aI y :: aI x :: St) S = if x = y then ev c 311 1059 [l0, l1, l2, l3, l4, l5, l6, l7] L2 St S else ev c 311 1057 [l0, l1, l2, l3, l4, l5, l6, l7] L2 St S := ev_br i311_1054 rfl
theorem i311_1057 : insAt 311 1057 = some (.iconst 0, 1, (0, 0, 0, 0), 0) := rfl
theorem s311_1057 {c : Nat → List AV → SS → Option Out} {l0 l1 l2 l3 l4 l5 l6 l7 : Option AV} {L2 : List (Nat × AV)} {St : List AV} {S : SS} : ev c 311 1057 [l0, l1, l2, l3, l4, l5, l6, l7] L2 St S = ev c 311 1058 [l0, l1, l2, l3, l4, l5, l6, l7] L2 (aI 0 :: St) S := ev_go i311_1057 rfl
theorem i311_1058 : insAt 311 1058 = some (.ireturn, 1, (0, 0, 0, 0), 0) := rfl
theorem s311_1058 {c : Nat → List AV → SS → Option Out} {l0 l1 l2 l3 l4 l5 l6 l7 : Option AV} {x : Int32} {L2 : List (Nat × AV)} {S : SS} : ev c 311 1058 [l0, l1, l2, l3, l4, l5, l6, l7] L2 [aI x] S = if x = 0 ∨ x = 1 then some (.inl (some (aI x)), S) else none := ev_rt i311_1058 rfl
theorem i311_1059 : insAt 311 1059 = some (.iload 6, 2, (0, 0, 0, 0), 0) := rfl
theorem s311_1059 {c : Nat → List AV → SS → Option Out} {l0 l1 l2 l3 l4 l5 l7 : Option AV} {x : Int32} {L2 : List (Nat × AV)} {St : List AV} {S : SS} : ev c 311 1059 [l0, l1, l2, l3, l4, l5, some (aI x), l7] L2 St S = ev c 311 1061 [l0, l1, l2, l3, l4, l5, some (aI x), l7] L2 (aI x :: St) S := ev_go i311_1059 rfl
theorem i311_1061 : insAt 311 1061 = some (.ifCond .ne 15, 3, (0, 0, 0, 0), 0) := rfl
theorem s311_1061 {c : Nat → List AV → SS → Option Out} {l0 l1 l2 l3 l4 l5 l6 l7 : Option AV} {x : Int32} {L2 : List (Nat × AV)} {St : List AV} {S : SS} : ev c 311 1061 [l0, l1, l2, l3, l4, l5, l6, l7] L2 (aI x :: St) S = if x = 0 then ev c 311 1064 [l0, l1, l2, l3, l4, l5, l6, l7] L2 St S else ev c 311 1076 [l0, l1, l2, l3, l4, l5, l6, l7] L2 St S := (ev_br i311_1061 rfl).trans (ite_not _ _ _)
theorem i311_1064 : insAt 311 1064 = some (.aload_n 3, 1, (0, 0, 0, 0), 0) := rfl
theorem s311_1064 {c : Nat → List AV → SS → Option Out} {l0 l1 l2 l4 l5 l6 l7 : Option AV} {o : OId} {L2 : List (Nat × AV)} {St : List AV} {S : SS} : ev c 311 1064 [l0, l1, l2, some (aR o), l4, l5, l6, l7] L2 St S = ev c 311 1065 [l0, l1, l2, some (aR o), l4, l5, l6, l7] L2 (aR o :: St) S := ev_go i311_1064 rfl
theorem i311_1065 : insAt 311 1065 = some (.iconst 0, 1, (0, 0, 0, 0), 0) := rfl
theorem s311_1065 {c : Nat → List AV → SS → Option Out} {l0 l1 l2 l3 l4 l5 l6 l7 : Option AV} {L2 : List (Nat × AV)} {St : List AV} {S : SS} : ev c 311 1065 [l0, l1, l2, l3, l4, l5, l6, l7] L2 St S = ev c 311 1066 [l0, l1, l2, l3, l4, l5, l6, l7] L2 (aI 0 :: St) S := ev_go i311_1065 rfl
theorem i311_1066 : insAt 311 1066 = some (.laload, 1, (0, 0, 0, 0), 0) := rfl
theorem s311_1066 {c : Nat → List AV → SS → Option Out} {l0 l1 l2 l3 l4 l5 l6 l7 : Option AV} {i : Int32} {o : OId} {L2 : List (Nat × AV)} {St : List AV} {S : SS} : ev c 311 1066 [l0, l1, l2, l3, l4, l5, l6, l7] L2 (aI i :: aR o :: St) S = kJ o i (ev c 311 1067 [l0, l1, l2, l3, l4, l5, l6, l7] L2 (aL (toL (S.2.1 o i.toNatClampNeg)) :: St) S) := ev_laload i311_1066
theorem i311_1067 : insAt 311 1067 = some (.iload 7, 2, (0, 0, 0, 0), 0) := rfl
theorem s311_1067 {c : Nat → List AV → SS → Option Out} {l0 l1 l2 l3 l4 l5 l6 : Option AV} {x : Int32} {L2 : List (Nat × AV)} {St : List AV} {S : SS} : ev c 311 1067 [l0, l1, l2, l3, l4, l5, l6, some (aI x)] L2 St S = ev c 311 1069 [l0, l1, l2, l3, l4, l5, l6, some (aI x)] L2 (aI x :: St) S := ev_go i311_1067 rfl
theorem i311_1069 : insAt 311 1069 = some (.i2l, 1, (0, 0, 0, 0), 0) := rfl
theorem s311_1069 {c : Nat → List AV → SS → Option Out} {l0 l1 l2 l3 l4 l5 l6 l7 : Option AV} {x : Int32} {L2 : List (Nat × AV)} {St : List AV} {S : SS} : ev c 311 1069 [l0, l1, l2, l3, l4, l5, l6, l7] L2 (aI x :: St) S = ev c 311 1070 [l0, l1, l2, l3, l4, l5, l6, l7] L2 (aL x.toInt64 :: St) S := ev_go i311_1069 rfl
theorem i311_1070 : insAt 311 1070 = some (.lcmp, 1, (0, 0, 0, 0), 0) := rfl
theorem s311_1070 {c : Nat → List AV → SS → Option Out} {l0 l1 l2 l3 l4 l5 l6 l7 : Option AV} {x y : Int64} {L2 : List (Nat × AV)} {St : List AV} {S : SS} : ev c 311 1070 [l0, l1, l2, l3, l4, l5, l6, l7] L2 (aL y :: aL x :: St) S = ev c 311 1071 [l0, l1, l2, l3, l4, l5, l6, l7] L2 (aI (if x < y then -1 else if x = y then 0 else 1) :: St) S := ev_go i311_1070 rfl
theorem i311_1071 : insAt 311 1071 = some (.ifCond .eq 5, 3, (0, 0, 0, 0), 0) := rfl
theorem s311_1071 {c : Nat → List AV → SS → Option Out} {l0 l1 l2 l3 l4 l5 l6 l7 : Option AV} {x : Int32} {L2 : List (Nat × AV)} {St : List AV} {S : SS} : ev c 311 1071 [l0, l1, l2, l3, l4, l5, l6, l7] L2 (aI x :: St) S = if x = 0 then ev c 311 1076 [l0, l1, l2, l3, l4, l5, l6, l7] L2 St S else ev c 311 1074 [l0, l1, l2, l3, l4, l5, l6, l7] L2 St S := ev_br i311_1071 rfl
theorem i311_1074 : insAt 311 1074 = some (.iconst 0, 1, (0, 0, 0, 0), 0) := rfl
theorem s311_1074 {c : Nat → List AV → SS → Option Out} {l0 l1 l2 l3 l4 l5 l6 l7 : Option AV} {L2 : List (Nat × AV)} {St : List AV} {S : SS} : ev c 311 1074 [l0, l1, l2, l3, l4, l5, l6, l7] L2 St S = ev c 311 1075 [l0, l1, l2, l3, l4, l5, l6, l7] L2 (aI 0 :: St) S := ev_go i311_1074 rfl
theorem i311_1075 : insAt 311 1075 = some (.ireturn, 1, (0, 0, 0, 0), 0) := rfl
theorem s311_1075 {c : Nat → List AV → SS → Option Out} {l0 l1 l2 l3 l4 l5 l6 l7 : Option AV} {x : Int32} {L2 : List (Nat × AV)} {S : SS} : ev c 311 1075 [l0, l1, l2, l3, l4, l5, l6, l7] L2 [aI x] S = if x = 0 ∨ x = 1 then some (.inl (some (aI x)), S) else none := ev_rt i311_1075 rfl
theorem i311_1076 : insAt 311 1076 = some (.goto 1723, 3, (0, 0, 0, 0), 0) := rfl
theorem s311_1076 {c : Nat → List AV → SS → Option Out} {l0 l1 l2 l3 l4 l5 l6 l7 : Option AV} {L2 : List (Nat × AV)} {St : List AV} {S : SS} : ev c 311 1076 [l0, l1, l2, l3, l4, l5, l6, l7] L2 St S = ev c 311 2799 [l0, l1, l2, l3, l4, l5, l6, l7] L2 St S := ev_go i311_1076 rfl
theorem i311_1079 : insAt 311 1079 = some (.aload_n 1, 1, (0, 0, 0, 0), 0) := rfl
theorem s311_1079 {c : Nat → List AV → SS → Option Out} {l0 l2 l3 l4 l5 l6 l7 : Option AV} {o : OId} {L2 : List (Nat × AV)} {St : List AV} {S : SS} : ev c 311 1079 [l0, some (aR o), l2, l3, l4, l5, l6, l7] L2 St S = ev c 311 1080 [l0, some (aR o), l2, l3, l4, l5, l6, l7] L2 (aR o :: St) S := ev_go i311_1079 rfl
theorem i311_1080 : insAt 311 1080 = some (.aload_n 0, 1, (0, 0, 0, 0), 0) := rfl
theorem s311_1080 {c : Nat → List AV → SS → Option Out} {l1 l2 l3 l4 l5 l6 l7 : Option AV} {o : OId} {L2 : List (Nat × AV)} {St : List AV} {S : SS} : ev c 311 1080 [some (aR o), l1, l2, l3, l4, l5, l6, l7] L2 St S = ev c 311 1081 [some (aR o), l1, l2, l3, l4, l5, l6, l7] L2 (aR o :: St) S := ev_go i311_1080 rfl
theorem i311_1081 : insAt 311 1081 = some (.iload 5, 2, (0, 0, 0, 0), 0) := rfl
theorem s311_1081 {c : Nat → List AV → SS → Option Out} {l0 l1 l2 l3 l4 l6 l7 : Option AV} {x : Int32} {L2 : List (Nat × AV)} {St : List AV} {S : SS} : ev c 311 1081 [l0, l1, l2, l3, l4, some (aI x), l6, l7] L2 St S = ev c 311 1083 [l0, l1, l2, l3, l4, some (aI x), l6, l7] L2 (aI x :: St) S := ev_go i311_1081 rfl
theorem i311_1083 : insAt 311 1083 = some (.iconst 1, 1, (0, 0, 0, 0), 0) := rfl
theorem s311_1083 {c : Nat → List AV → SS → Option Out} {l0 l1 l2 l3 l4 l5 l6 l7 : Option AV} {L2 : List (Nat × AV)} {St : List AV} {S : SS} : ev c 311 1083 [l0, l1, l2, l3, l4, l5, l6, l7] L2 St S = ev c 311 1084 [l0, l1, l2, l3, l4, l5, l6, l7] L2 (aI 1 :: St) S := ev_go i311_1083 rfl
theorem i311_1084 : insAt 311 1084 = some (.iadd, 1, (0, 0, 0, 0), 0) := rfl
theorem s311_1084 {c : Nat → List AV → SS → Option Out} {l0 l1 l2 l3 l4 l5 l6 l7 : Option AV} {x y : Int32} {L2 : List (Nat × AV)} {St : List AV} {S : SS} : ev c 311 1084 [l0, l1, l2, l3, l4, l5, l6, l7] L2 (aI y :: aI x :: St) S = ev c 311 1085 [l0, l1, l2, l3, l4, l5, l6, l7] L2 (aI (x + y) :: St) S := ev_go i311_1084 rfl
theorem i311_1085 : insAt 311 1085 = some (.iaload, 1, (0, 0, 0, 0), 0) := rfl
theorem s311_1085 {c : Nat → List AV → SS → Option Out} {l0 l1 l2 l3 l4 l5 l6 l7 : Option AV} {i : Int32} {o : OId} {L2 : List (Nat × AV)} {St : List AV} {S : SS} : ev c 311 1085 [l0, l1, l2, l3, l4, l5, l6, l7] L2 (aI i :: aR o :: St) S = kI o i (ev c 311 1086 [l0, l1, l2, l3, l4, l5, l6, l7] L2 (aI (agI S o i.toNatClampNeg) :: St) S) := ev_iaload i311_1085
theorem i311_1086 : insAt 311 1086 = some (.aload_n 3, 1, (0, 0, 0, 0), 0) := rfl
theorem s311_1086 {c : Nat → List AV → SS → Option Out} {l0 l1 l2 l4 l5 l6 l7 : Option AV} {o : OId} {L2 : List (Nat × AV)} {St : List AV} {S : SS} : ev c 311 1086 [l0, l1, l2, some (aR o), l4, l5, l6, l7] L2 St S = ev c 311 1087 [l0, l1, l2, some (aR o), l4, l5, l6, l7] L2 (aR o :: St) S := ev_go i311_1086 rfl
theorem i311_1087 : insAt 311 1087 = some (.invokestatic 212, 3, (110, 3, 0, 0), 476) := rfl
theorem s311_1087 {c : Nat → List AV → SS → Option Out} {l0 l1 l2 l3 l4 l5 l6 l7 : Option AV} {a0 : OId} {a1 : Int32} {a2 : OId} {L2 : List (Nat × AV)} {S : SS} : ev c 311 1087 [l0, l1, l2, l3, l4, l5, l6, l7] L2 [aR a2, aI a1, aR a0] S = ck (c 110 [aR a0, aI a1, aR a2] S) (fun v S' => ev c 311 1090 [l0, l1, l2, l3, l4, l5, l6, l7] L2 (v.toList ++ []) S') := ev_call i311_1087 rfl
theorem i311_1090 : insAt 311 1090 = some (.istore 6, 2, (0, 0, 0, 0), 0) := rfl
theorem s311_1090 {c : Nat → List AV → SS → Option Out} {l0 l1 l2 l3 l4 l5 l6 l7 : Option AV} {x : Int32} {L2 : List (Nat × AV)} {St : List AV} {S : SS} : ev c 311 1090 [l0, l1, l2, l3, l4, l5, l6, l7] L2 (aI x :: St) S = ev c 311 1092 [l0, l1, l2, l3, l4, l5, some (aI x), l7] (kil L2 6) St S := ev_go i311_1090 rfl
theorem i311_1092 : insAt 311 1092 = some (.aload_n 2, 1, (0, 0, 0, 0), 0) := rfl
theorem s311_1092 {c : Nat → List AV → SS → Option Out} {l0 l1 l3 l4 l5 l6 l7 : Option AV} {o : OId} {L2 : List (Nat × AV)} {St : List AV} {S : SS} : ev c 311 1092 [l0, l1, some (aR o), l3, l4, l5, l6, l7] L2 St S = ev c 311 1093 [l0, l1, some (aR o), l3, l4, l5, l6, l7] L2 (aR o :: St) S := ev_go i311_1092 rfl
theorem i311_1093 : insAt 311 1093 = some (.aload_n 0, 1, (0, 0, 0, 0), 0) := rfl
theorem s311_1093 {c : Nat → List AV → SS → Option Out} {l1 l2 l3 l4 l5 l6 l7 : Option AV} {o : OId} {L2 : List (Nat × AV)} {St : List AV} {S : SS} : ev c 311 1093 [some (aR o), l1, l2, l3, l4, l5, l6, l7] L2 St S = ev c 311 1094 [some (aR o), l1, l2, l3, l4, l5, l6, l7] L2 (aR o :: St) S := ev_go i311_1093 rfl
theorem i311_1094 : insAt 311 1094 = some (.iload 5, 2, (0, 0, 0, 0), 0) := rfl
theorem s311_1094 {c : Nat → List AV → SS → Option Out} {l0 l1 l2 l3 l4 l6 l7 : Option AV} {x : Int32} {L2 : List (Nat × AV)} {St : List AV} {S : SS} : ev c 311 1094 [l0, l1, l2, l3, l4, some (aI x), l6, l7] L2 St S = ev c 311 1096 [l0, l1, l2, l3, l4, some (aI x), l6, l7] L2 (aI x :: St) S := ev_go i311_1094 rfl
theorem i311_1096 : insAt 311 1096 = some (.iconst 1, 1, (0, 0, 0, 0), 0) := rfl
theorem s311_1096 {c : Nat → List AV → SS → Option Out} {l0 l1 l2 l3 l4 l5 l6 l7 : Option AV} {L2 : List (Nat × AV)} {St : List AV} {S : SS} : ev c 311 1096 [l0, l1, l2, l3, l4, l5, l6, l7] L2 St S = ev c 311 1097 [l0, l1, l2, l3, l4, l5, l6, l7] L2 (aI 1 :: St) S := ev_go i311_1096 rfl
theorem i311_1097 : insAt 311 1097 = some (.iadd, 1, (0, 0, 0, 0), 0) := rfl
theorem s311_1097 {c : Nat → List AV → SS → Option Out} {l0 l1 l2 l3 l4 l5 l6 l7 : Option AV} {x y : Int32} {L2 : List (Nat × AV)} {St : List AV} {S : SS} : ev c 311 1097 [l0, l1, l2, l3, l4, l5, l6, l7] L2 (aI y :: aI x :: St) S = ev c 311 1098 [l0, l1, l2, l3, l4, l5, l6, l7] L2 (aI (x + y) :: St) S := ev_go i311_1097 rfl
theorem i311_1098 : insAt 311 1098 = some (.iaload, 1, (0, 0, 0, 0), 0) := rfl
theorem s311_1098 {c : Nat → List AV → SS → Option Out} {l0 l1 l2 l3 l4 l5 l6 l7 : Option AV} {i : Int32} {o : OId} {L2 : List (Nat × AV)} {St : List AV} {S : SS} : ev c 311 1098 [l0, l1, l2, l3, l4, l5, l6, l7] L2 (aI i :: aR o :: St) S = kI o i (ev c 311 1099 [l0, l1, l2, l3, l4, l5, l6, l7] L2 (aI (agI S o i.toNatClampNeg) :: St) S) := ev_iaload i311_1098
theorem i311_1099 : insAt 311 1099 = some (.invokevirtual 214, 3, (269, 1, 2, 12), 477) := rfl
theorem s311_1099 {c : Nat → List AV → SS → Option Out} {l0 l1 l2 l3 l4 l5 l6 l7 : Option AV} {a0 : Int32} {j t : Nat} {L2 : List (Nat × AV)} {S : SS} : ev c 311 1099 [l0, l1, l2, l3, l4, l5, l6, l7] L2 [aI a0, aR (12, j, t)] S = ck (c 269 [aR (12, j, t), aI a0] S) (fun v S' => ev c 311 1102 [l0, l1, l2, l3, l4, l5, l6, l7] L2 (v.toList ++ []) S') := ev_call i311_1099 rfl
theorem i311_1102 : insAt 311 1102 = some (.istore 7, 2, (0, 0, 0, 0), 0) := rfl
theorem s311_1102 {c : Nat → List AV → SS → Option Out} {l0 l1 l2 l3 l4 l5 l6 l7 : Option AV} {x : Int32} {L2 : List (Nat × AV)} {St : List AV} {S : SS} : ev c 311 1102 [l0, l1, l2, l3, l4, l5, l6, l7] L2 (aI x :: St) S = ev c 311 1104 [l0, l1, l2, l3, l4, l5, l6, some (aI x)] (kil L2 7) St S := ev_go i311_1102 rfl
theorem i311_1104 : insAt 311 1104 = some (.aload_n 2, 1, (0, 0, 0, 0), 0) := rfl
theorem s311_1104 {c : Nat → List AV → SS → Option Out} {l0 l1 l3 l4 l5 l6 l7 : Option AV} {o : OId} {L2 : List (Nat × AV)} {St : List AV} {S : SS} : ev c 311 1104 [l0, l1, some (aR o), l3, l4, l5, l6, l7] L2 St S = ev c 311 1105 [l0, l1, some (aR o), l3, l4, l5, l6, l7] L2 (aR o :: St) S := ev_go i311_1104 rfl
theorem i311_1105 : insAt 311 1105 = some (.invokevirtual 149, 3, (215, 0, 2, 12), 441) := rfl
theorem s311_1105 {c : Nat → List AV → SS → Option Out} {l0 l1 l2 l3 l4 l5 l6 l7 : Option AV} {j t : Nat} {L2 : List (Nat × AV)} {S : SS} : ev c 311 1105 [l0, l1, l2, l3, l4, l5, l6, l7] L2 [aR (12, j, t)] S = ck (c 215 [aR (12, j, t)] S) (fun v S' => ev c 311 1108 [l0, l1, l2, l3, l4, l5, l6, l7] L2 (v.toList ++ []) S') := ev_call i311_1105 rfl
theorem i311_1108 : insAt 311 1108 = some (.iload 6, 2, (0, 0, 0, 0), 0) := rfl
theorem s311_1108 {c : Nat → List AV → SS → Option Out} {l0 l1 l2 l3 l4 l5 l7 : Option AV} {x : Int32} {L2 : List (Nat × AV)} {St : List AV} {S : SS} : ev c 311 1108 [l0, l1, l2, l3, l4, l5, some (aI x), l7] L2 St S = ev c 311 1110 [l0, l1, l2, l3, l4, l5, some (aI x), l7] L2 (aI x :: St) S := ev_go i311_1108 rfl
theorem i311_1110 : insAt 311 1110 = some (.if_icmp .eq 5, 3, (0, 0, 0, 0), 0) := rfl
theorem s311_1110 {c : Nat → List AV → SS → Option Out} {l0 l1 l2 l3 l4 l5 l6 l7 : Option AV} {x y : Int32} {L2 : List (Nat × AV)} {St : List AV} {S : SS} : ev c 311 1110 [l0, l1, l2, l3, l4, l5, l6, l7] L2 (aI y :: aI x :: St) S = if x = y then ev c 311 1115 [l0, l1, l2, l3, l4, l5, l6, l7] L2 St S else ev c 311 1113 [l0, l1, l2, l3, l4, l5, l6, l7] L2 St S := ev_br i311_1110 rfl
theorem i311_1113 : insAt 311 1113 = some (.iconst 0, 1, (0, 0, 0, 0), 0) := rfl
theorem s311_1113 {c : Nat → List AV → SS → Option Out} {l0 l1 l2 l3 l4 l5 l6 l7 : Option AV} {L2 : List (Nat × AV)} {St : List AV} {S : SS} : ev c 311 1113 [l0, l1, l2, l3, l4, l5, l6, l7] L2 St S = ev c 311 1114 [l0, l1, l2, l3, l4, l5, l6, l7] L2 (aI 0 :: St) S := ev_go i311_1113 rfl
theorem i311_1114 : insAt 311 1114 = some (.ireturn, 1, (0, 0, 0, 0), 0) := rfl
theorem s311_1114 {c : Nat → List AV → SS → Option Out} {l0 l1 l2 l3 l4 l5 l6 l7 : Option AV} {x : Int32} {L2 : List (Nat × AV)} {S : SS} : ev c 311 1114 [l0, l1, l2, l3, l4, l5, l6, l7] L2 [aI x] S = if x = 0 ∨ x = 1 then some (.inl (some (aI x)), S) else none := ev_rt i311_1114 rfl
theorem i311_1115 : insAt 311 1115 = some (.iload 6, 2, (0, 0, 0, 0), 0) := rfl
theorem s311_1115 {c : Nat → List AV → SS → Option Out} {l0 l1 l2 l3 l4 l5 l7 : Option AV} {x : Int32} {L2 : List (Nat × AV)} {St : List AV} {S : SS} : ev c 311 1115 [l0, l1, l2, l3, l4, l5, some (aI x), l7] L2 St S = ev c 311 1117 [l0, l1, l2, l3, l4, l5, some (aI x), l7] L2 (aI x :: St) S := ev_go i311_1115 rfl
theorem i311_1117 : insAt 311 1117 = some (.ifCond .ne 15, 3, (0, 0, 0, 0), 0) := rfl
theorem s311_1117 {c : Nat → List AV → SS → Option Out} {l0 l1 l2 l3 l4 l5 l6 l7 : Option AV} {x : Int32} {L2 : List (Nat × AV)} {St : List AV} {S : SS} : ev c 311 1117 [l0, l1, l2, l3, l4, l5, l6, l7] L2 (aI x :: St) S = if x = 0 then ev c 311 1120 [l0, l1, l2, l3, l4, l5, l6, l7] L2 St S else ev c 311 1132 [l0, l1, l2, l3, l4, l5, l6, l7] L2 St S := (ev_br i311_1117 rfl).trans (ite_not _ _ _)
theorem i311_1120 : insAt 311 1120 = some (.aload_n 3, 1, (0, 0, 0, 0), 0) := rfl
theorem s311_1120 {c : Nat → List AV → SS → Option Out} {l0 l1 l2 l4 l5 l6 l7 : Option AV} {o : OId} {L2 : List (Nat × AV)} {St : List AV} {S : SS} : ev c 311 1120 [l0, l1, l2, some (aR o), l4, l5, l6, l7] L2 St S = ev c 311 1121 [l0, l1, l2, some (aR o), l4, l5, l6, l7] L2 (aR o :: St) S := ev_go i311_1120 rfl
theorem i311_1121 : insAt 311 1121 = some (.iconst 0, 1, (0, 0, 0, 0), 0) := rfl
theorem s311_1121 {c : Nat → List AV → SS → Option Out} {l0 l1 l2 l3 l4 l5 l6 l7 : Option AV} {L2 : List (Nat × AV)} {St : List AV} {S : SS} : ev c 311 1121 [l0, l1, l2, l3, l4, l5, l6, l7] L2 St S = ev c 311 1122 [l0, l1, l2, l3, l4, l5, l6, l7] L2 (aI 0 :: St) S := ev_go i311_1121 rfl
theorem i311_1122 : insAt 311 1122 = some (.laload, 1, (0, 0, 0, 0), 0) := rfl
theorem s311_1122 {c : Nat → List AV → SS → Option Out} {l0 l1 l2 l3 l4 l5 l6 l7 : Option AV} {i : Int32} {o : OId} {L2 : List (Nat × AV)} {St : List AV} {S : SS} : ev c 311 1122 [l0, l1, l2, l3, l4, l5, l6, l7] L2 (aI i :: aR o :: St) S = kJ o i (ev c 311 1123 [l0, l1, l2, l3, l4, l5, l6, l7] L2 (aL (toL (S.2.1 o i.toNatClampNeg)) :: St) S) := ev_laload i311_1122
theorem i311_1123 : insAt 311 1123 = some (.iload 7, 2, (0, 0, 0, 0), 0) := rfl
theorem s311_1123 {c : Nat → List AV → SS → Option Out} {l0 l1 l2 l3 l4 l5 l6 : Option AV} {x : Int32} {L2 : List (Nat × AV)} {St : List AV} {S : SS} : ev c 311 1123 [l0, l1, l2, l3, l4, l5, l6, some (aI x)] L2 St S = ev c 311 1125 [l0, l1, l2, l3, l4, l5, l6, some (aI x)] L2 (aI x :: St) S := ev_go i311_1123 rfl
theorem i311_1125 : insAt 311 1125 = some (.i2l, 1, (0, 0, 0, 0), 0) := rfl
theorem s311_1125 {c : Nat → List AV → SS → Option Out} {l0 l1 l2 l3 l4 l5 l6 l7 : Option AV} {x : Int32} {L2 : List (Nat × AV)} {St : List AV} {S : SS} : ev c 311 1125 [l0, l1, l2, l3, l4, l5, l6, l7] L2 (aI x :: St) S = ev c 311 1126 [l0, l1, l2, l3, l4, l5, l6, l7] L2 (aL x.toInt64 :: St) S := ev_go i311_1125 rfl
theorem i311_1126 : insAt 311 1126 = some (.lcmp, 1, (0, 0, 0, 0), 0) := rfl
theorem s311_1126 {c : Nat → List AV → SS → Option Out} {l0 l1 l2 l3 l4 l5 l6 l7 : Option AV} {x y : Int64} {L2 : List (Nat × AV)} {St : List AV} {S : SS} : ev c 311 1126 [l0, l1, l2, l3, l4, l5, l6, l7] L2 (aL y :: aL x :: St) S = ev c 311 1127 [l0, l1, l2, l3, l4, l5, l6, l7] L2 (aI (if x < y then -1 else if x = y then 0 else 1) :: St) S := ev_go i311_1126 rfl
theorem i311_1127 : insAt 311 1127 = some (.ifCond .eq 5, 3, (0, 0, 0, 0), 0) := rfl
theorem s311_1127 {c : Nat → List AV → SS → Option Out} {l0 l1 l2 l3 l4 l5 l6 l7 : Option AV} {x : Int32} {L2 : List (Nat × AV)} {St : List AV} {S : SS} : ev c 311 1127 [l0, l1, l2, l3, l4, l5, l6, l7] L2 (aI x :: St) S = if x = 0 then ev c 311 1132 [l0, l1, l2, l3, l4, l5, l6, l7] L2 St S else ev c 311 1130 [l0, l1, l2, l3, l4, l5, l6, l7] L2 St S := ev_br i311_1127 rfl
theorem i311_1130 : insAt 311 1130 = some (.iconst 0, 1, (0, 0, 0, 0), 0) := rfl
theorem s311_1130 {c : Nat → List AV → SS → Option Out} {l0 l1 l2 l3 l4 l5 l6 l7 : Option AV} {L2 : List (Nat × AV)} {St : List AV} {S : SS} : ev c 311 1130 [l0, l1, l2, l3, l4, l5, l6, l7] L2 St S = ev c 311 1131 [l0, l1, l2, l3, l4, l5, l6, l7] L2 (aI 0 :: St) S := ev_go i311_1130 rfl
theorem i311_1131 : insAt 311 1131 = some (.ireturn, 1, (0, 0, 0, 0), 0) := rfl
theorem s311_1131 {c : Nat → List AV → SS → Option Out} {l0 l1 l2 l3 l4 l5 l6 l7 : Option AV} {x : Int32} {L2 : List (Nat × AV)} {S : SS} : ev c 311 1131 [l0, l1, l2, l3, l4, l5, l6, l7] L2 [aI x] S = if x = 0 ∨ x = 1 then some (.inl (some (aI x)), S) else none := ev_rt i311_1131 rfl
theorem i311_1132 : insAt 311 1132 = some (.goto 1667, 3, (0, 0, 0, 0), 0) := rfl
theorem s311_1132 {c : Nat → List AV → SS → Option Out} {l0 l1 l2 l3 l4 l5 l6 l7 : Option AV} {L2 : List (Nat × AV)} {St : List AV} {S : SS} : ev c 311 1132 [l0, l1, l2, l3, l4, l5, l6, l7] L2 St S = ev c 311 2799 [l0, l1, l2, l3, l4, l5, l6, l7] L2 St S := ev_go i311_1132 rfl
theorem i311_1135 : insAt 311 1135 = some (.aload_n 1, 1, (0, 0, 0, 0), 0) := rfl
theorem s311_1135 {c : Nat → List AV → SS → Option Out} {l0 l2 l3 l4 l5 l6 l7 : Option AV} {o : OId} {L2 : List (Nat × AV)} {St : List AV} {S : SS} : ev c 311 1135 [l0, some (aR o), l2, l3, l4, l5, l6, l7] L2 St S = ev c 311 1136 [l0, some (aR o), l2, l3, l4, l5, l6, l7] L2 (aR o :: St) S := ev_go i311_1135 rfl
theorem i311_1136 : insAt 311 1136 = some (.aload_n 0, 1, (0, 0, 0, 0), 0) := rfl
theorem s311_1136 {c : Nat → List AV → SS → Option Out} {l1 l2 l3 l4 l5 l6 l7 : Option AV} {o : OId} {L2 : List (Nat × AV)} {St : List AV} {S : SS} : ev c 311 1136 [some (aR o), l1, l2, l3, l4, l5, l6, l7] L2 St S = ev c 311 1137 [some (aR o), l1, l2, l3, l4, l5, l6, l7] L2 (aR o :: St) S := ev_go i311_1136 rfl
theorem i311_1137 : insAt 311 1137 = some (.iload 5, 2, (0, 0, 0, 0), 0) := rfl
theorem s311_1137 {c : Nat → List AV → SS → Option Out} {l0 l1 l2 l3 l4 l6 l7 : Option AV} {x : Int32} {L2 : List (Nat × AV)} {St : List AV} {S : SS} : ev c 311 1137 [l0, l1, l2, l3, l4, some (aI x), l6, l7] L2 St S = ev c 311 1139 [l0, l1, l2, l3, l4, some (aI x), l6, l7] L2 (aI x :: St) S := ev_go i311_1137 rfl
theorem i311_1139 : insAt 311 1139 = some (.iconst 1, 1, (0, 0, 0, 0), 0) := rfl
theorem s311_1139 {c : Nat → List AV → SS → Option Out} {l0 l1 l2 l3 l4 l5 l6 l7 : Option AV} {L2 : List (Nat × AV)} {St : List AV} {S : SS} : ev c 311 1139 [l0, l1, l2, l3, l4, l5, l6, l7] L2 St S = ev c 311 1140 [l0, l1, l2, l3, l4, l5, l6, l7] L2 (aI 1 :: St) S := ev_go i311_1139 rfl
theorem i311_1140 : insAt 311 1140 = some (.iadd, 1, (0, 0, 0, 0), 0) := rfl
theorem s311_1140 {c : Nat → List AV → SS → Option Out} {l0 l1 l2 l3 l4 l5 l6 l7 : Option AV} {x y : Int32} {L2 : List (Nat × AV)} {St : List AV} {S : SS} : ev c 311 1140 [l0, l1, l2, l3, l4, l5, l6, l7] L2 (aI y :: aI x :: St) S = ev c 311 1141 [l0, l1, l2, l3, l4, l5, l6, l7] L2 (aI (x + y) :: St) S := ev_go i311_1140 rfl
theorem i311_1141 : insAt 311 1141 = some (.iaload, 1, (0, 0, 0, 0), 0) := rfl
theorem s311_1141 {c : Nat → List AV → SS → Option Out} {l0 l1 l2 l3 l4 l5 l6 l7 : Option AV} {i : Int32} {o : OId} {L2 : List (Nat × AV)} {St : List AV} {S : SS} : ev c 311 1141 [l0, l1, l2, l3, l4, l5, l6, l7] L2 (aI i :: aR o :: St) S = kI o i (ev c 311 1142 [l0, l1, l2, l3, l4, l5, l6, l7] L2 (aI (agI S o i.toNatClampNeg) :: St) S) := ev_iaload i311_1141
theorem i311_1142 : insAt 311 1142 = some (.aload_n 3, 1, (0, 0, 0, 0), 0) := rfl
theorem s311_1142 {c : Nat → List AV → SS → Option Out} {l0 l1 l2 l4 l5 l6 l7 : Option AV} {o : OId} {L2 : List (Nat × AV)} {St : List AV} {S : SS} : ev c 311 1142 [l0, l1, l2, some (aR o), l4, l5, l6, l7] L2 St S = ev c 311 1143 [l0, l1, l2, some (aR o), l4, l5, l6, l7] L2 (aR o :: St) S := ev_go i311_1142 rfl
theorem i311_1143 : insAt 311 1143 = some (.invokestatic 215, 3, (112, 3, 0, 0), 478) := rfl
theorem s311_1143 {c : Nat → List AV → SS → Option Out} {l0 l1 l2 l3 l4 l5 l6 l7 : Option AV} {a0 : OId} {a1 : Int32} {a2 : OId} {L2 : List (Nat × AV)} {S : SS} : ev c 311 1143 [l0, l1, l2, l3, l4, l5, l6, l7] L2 [aR a2, aI a1, aR a0] S = ck (c 112 [aR a0, aI a1, aR a2] S) (fun v S' => ev c 311 1146 [l0, l1, l2, l3, l4, l5, l6, l7] L2 (v.toList ++ []) S') := ev_call i311_1143 rfl
theorem i311_1146 : insAt 311 1146 = some (.istore 6, 2, (0, 0, 0, 0), 0) := rfl
theorem s311_1146 {c : Nat → List AV → SS → Option Out} {l0 l1 l2 l3 l4 l5 l6 l7 : Option AV} {x : Int32} {L2 : List (Nat × AV)} {St : List AV} {S : SS} : ev c 311 1146 [l0, l1, l2, l3, l4, l5, l6, l7] L2 (aI x :: St) S = ev c 311 1148 [l0, l1, l2, l3, l4, l5, some (aI x), l7] (kil L2 6) St S := ev_go i311_1146 rfl
theorem i311_1148 : insAt 311 1148 = some (.aload_n 2, 1, (0, 0, 0, 0), 0) := rfl
theorem s311_1148 {c : Nat → List AV → SS → Option Out} {l0 l1 l3 l4 l5 l6 l7 : Option AV} {o : OId} {L2 : List (Nat × AV)} {St : List AV} {S : SS} : ev c 311 1148 [l0, l1, some (aR o), l3, l4, l5, l6, l7] L2 St S = ev c 311 1149 [l0, l1, some (aR o), l3, l4, l5, l6, l7] L2 (aR o :: St) S := ev_go i311_1148 rfl
theorem i311_1149 : insAt 311 1149 = some (.aload_n 0, 1, (0, 0, 0, 0), 0) := rfl
theorem s311_1149 {c : Nat → List AV → SS → Option Out} {l1 l2 l3 l4 l5 l6 l7 : Option AV} {o : OId} {L2 : List (Nat × AV)} {St : List AV} {S : SS} : ev c 311 1149 [some (aR o), l1, l2, l3, l4, l5, l6, l7] L2 St S = ev c 311 1150 [some (aR o), l1, l2, l3, l4, l5, l6, l7] L2 (aR o :: St) S := ev_go i311_1149 rfl
theorem i311_1150 : insAt 311 1150 = some (.iload 5, 2, (0, 0, 0, 0), 0) := rfl
theorem s311_1150 {c : Nat → List AV → SS → Option Out} {l0 l1 l2 l3 l4 l6 l7 : Option AV} {x : Int32} {L2 : List (Nat × AV)} {St : List AV} {S : SS} : ev c 311 1150 [l0, l1, l2, l3, l4, some (aI x), l6, l7] L2 St S = ev c 311 1152 [l0, l1, l2, l3, l4, some (aI x), l6, l7] L2 (aI x :: St) S := ev_go i311_1150 rfl
theorem i311_1152 : insAt 311 1152 = some (.iconst 1, 1, (0, 0, 0, 0), 0) := rfl
theorem s311_1152 {c : Nat → List AV → SS → Option Out} {l0 l1 l2 l3 l4 l5 l6 l7 : Option AV} {L2 : List (Nat × AV)} {St : List AV} {S : SS} : ev c 311 1152 [l0, l1, l2, l3, l4, l5, l6, l7] L2 St S = ev c 311 1153 [l0, l1, l2, l3, l4, l5, l6, l7] L2 (aI 1 :: St) S := ev_go i311_1152 rfl
theorem i311_1153 : insAt 311 1153 = some (.iadd, 1, (0, 0, 0, 0), 0) := rfl
theorem s311_1153 {c : Nat → List AV → SS → Option Out} {l0 l1 l2 l3 l4 l5 l6 l7 : Option AV} {x y : Int32} {L2 : List (Nat × AV)} {St : List AV} {S : SS} : ev c 311 1153 [l0, l1, l2, l3, l4, l5, l6, l7] L2 (aI y :: aI x :: St) S = ev c 311 1154 [l0, l1, l2, l3, l4, l5, l6, l7] L2 (aI (x + y) :: St) S := ev_go i311_1153 rfl
theorem i311_1154 : insAt 311 1154 = some (.iaload, 1, (0, 0, 0, 0), 0) := rfl
theorem s311_1154 {c : Nat → List AV → SS → Option Out} {l0 l1 l2 l3 l4 l5 l6 l7 : Option AV} {i : Int32} {o : OId} {L2 : List (Nat × AV)} {St : List AV} {S : SS} : ev c 311 1154 [l0, l1, l2, l3, l4, l5, l6, l7] L2 (aI i :: aR o :: St) S = kI o i (ev c 311 1155 [l0, l1, l2, l3, l4, l5, l6, l7] L2 (aI (agI S o i.toNatClampNeg) :: St) S) := ev_iaload i311_1154
theorem i311_1155 : insAt 311 1155 = some (.invokevirtual 217, 3, (270, 1, 2, 12), 479) := rfl
theorem s311_1155 {c : Nat → List AV → SS → Option Out} {l0 l1 l2 l3 l4 l5 l6 l7 : Option AV} {a0 : Int32} {j t : Nat} {L2 : List (Nat × AV)} {S : SS} : ev c 311 1155 [l0, l1, l2, l3, l4, l5, l6, l7] L2 [aI a0, aR (12, j, t)] S = ck (c 270 [aR (12, j, t), aI a0] S) (fun v S' => ev c 311 1158 [l0, l1, l2, l3, l4, l5, l6, l7] L2 (v.toList ++ []) S') := ev_call i311_1155 rfl
theorem i311_1158 : insAt 311 1158 = some (.istore 7, 2, (0, 0, 0, 0), 0) := rfl
theorem s311_1158 {c : Nat → List AV → SS → Option Out} {l0 l1 l2 l3 l4 l5 l6 l7 : Option AV} {x : Int32} {L2 : List (Nat × AV)} {St : List AV} {S : SS} : ev c 311 1158 [l0, l1, l2, l3, l4, l5, l6, l7] L2 (aI x :: St) S = ev c 311 1160 [l0, l1, l2, l3, l4, l5, l6, some (aI x)] (kil L2 7) St S := ev_go i311_1158 rfl
theorem i311_1160 : insAt 311 1160 = some (.aload_n 2, 1, (0, 0, 0, 0), 0) := rfl
theorem s311_1160 {c : Nat → List AV → SS → Option Out} {l0 l1 l3 l4 l5 l6 l7 : Option AV} {o : OId} {L2 : List (Nat × AV)} {St : List AV} {S : SS} : ev c 311 1160 [l0, l1, some (aR o), l3, l4, l5, l6, l7] L2 St S = ev c 311 1161 [l0, l1, some (aR o), l3, l4, l5, l6, l7] L2 (aR o :: St) S := ev_go i311_1160 rfl
theorem i311_1161 : insAt 311 1161 = some (.invokevirtual 149, 3, (215, 0, 2, 12), 441) := rfl
theorem s311_1161 {c : Nat → List AV → SS → Option Out} {l0 l1 l2 l3 l4 l5 l6 l7 : Option AV} {j t : Nat} {L2 : List (Nat × AV)} {S : SS} : ev c 311 1161 [l0, l1, l2, l3, l4, l5, l6, l7] L2 [aR (12, j, t)] S = ck (c 215 [aR (12, j, t)] S) (fun v S' => ev c 311 1164 [l0, l1, l2, l3, l4, l5, l6, l7] L2 (v.toList ++ []) S') := ev_call i311_1161 rfl
theorem i311_1164 : insAt 311 1164 = some (.iload 6, 2, (0, 0, 0, 0), 0) := rfl
theorem s311_1164 {c : Nat → List AV → SS → Option Out} {l0 l1 l2 l3 l4 l5 l7 : Option AV} {x : Int32} {L2 : List (Nat × AV)} {St : List AV} {S : SS} : ev c 311 1164 [l0, l1, l2, l3, l4, l5, some (aI x), l7] L2 St S = ev c 311 1166 [l0, l1, l2, l3, l4, l5, some (aI x), l7] L2 (aI x :: St) S := ev_go i311_1164 rfl
theorem i311_1166 : insAt 311 1166 = some (.if_icmp .eq 5, 3, (0, 0, 0, 0), 0) := rfl
theorem s311_1166 {c : Nat → List AV → SS → Option Out} {l0 l1 l2 l3 l4 l5 l6 l7 : Option AV} {x y : Int32} {L2 : List (Nat × AV)} {St : List AV} {S : SS} : ev c 311 1166 [l0, l1, l2, l3, l4, l5, l6, l7] L2 (aI y :: aI x :: St) S = if x = y then ev c 311 1171 [l0, l1, l2, l3, l4, l5, l6, l7] L2 St S else ev c 311 1169 [l0, l1, l2, l3, l4, l5, l6, l7] L2 St S := ev_br i311_1166 rfl
theorem i311_1169 : insAt 311 1169 = some (.iconst 0, 1, (0, 0, 0, 0), 0) := rfl
theorem s311_1169 {c : Nat → List AV → SS → Option Out} {l0 l1 l2 l3 l4 l5 l6 l7 : Option AV} {L2 : List (Nat × AV)} {St : List AV} {S : SS} : ev c 311 1169 [l0, l1, l2, l3, l4, l5, l6, l7] L2 St S = ev c 311 1170 [l0, l1, l2, l3, l4, l5, l6, l7] L2 (aI 0 :: St) S := ev_go i311_1169 rfl
theorem i311_1170 : insAt 311 1170 = some (.ireturn, 1, (0, 0, 0, 0), 0) := rfl
theorem s311_1170 {c : Nat → List AV → SS → Option Out} {l0 l1 l2 l3 l4 l5 l6 l7 : Option AV} {x : Int32} {L2 : List (Nat × AV)} {S : SS} : ev c 311 1170 [l0, l1, l2, l3, l4, l5, l6, l7] L2 [aI x] S = if x = 0 ∨ x = 1 then some (.inl (some (aI x)), S) else none := ev_rt i311_1170 rfl
theorem i311_1171 : insAt 311 1171 = some (.iload 6, 2, (0, 0, 0, 0), 0) := rfl
theorem s311_1171 {c : Nat → List AV → SS → Option Out} {l0 l1 l2 l3 l4 l5 l7 : Option AV} {x : Int32} {L2 : List (Nat × AV)} {St : List AV} {S : SS} : ev c 311 1171 [l0, l1, l2, l3, l4, l5, some (aI x), l7] L2 St S = ev c 311 1173 [l0, l1, l2, l3, l4, l5, some (aI x), l7] L2 (aI x :: St) S := ev_go i311_1171 rfl
theorem i311_1173 : insAt 311 1173 = some (.ifCond .ne 15, 3, (0, 0, 0, 0), 0) := rfl
theorem s311_1173 {c : Nat → List AV → SS → Option Out} {l0 l1 l2 l3 l4 l5 l6 l7 : Option AV} {x : Int32} {L2 : List (Nat × AV)} {St : List AV} {S : SS} : ev c 311 1173 [l0, l1, l2, l3, l4, l5, l6, l7] L2 (aI x :: St) S = if x = 0 then ev c 311 1176 [l0, l1, l2, l3, l4, l5, l6, l7] L2 St S else ev c 311 1188 [l0, l1, l2, l3, l4, l5, l6, l7] L2 St S := (ev_br i311_1173 rfl).trans (ite_not _ _ _)
theorem i311_1176 : insAt 311 1176 = some (.aload_n 3, 1, (0, 0, 0, 0), 0) := rfl
theorem s311_1176 {c : Nat → List AV → SS → Option Out} {l0 l1 l2 l4 l5 l6 l7 : Option AV} {o : OId} {L2 : List (Nat × AV)} {St : List AV} {S : SS} : ev c 311 1176 [l0, l1, l2, some (aR o), l4, l5, l6, l7] L2 St S = ev c 311 1177 [l0, l1, l2, some (aR o), l4, l5, l6, l7] L2 (aR o :: St) S := ev_go i311_1176 rfl
theorem i311_1177 : insAt 311 1177 = some (.iconst 0, 1, (0, 0, 0, 0), 0) := rfl
theorem s311_1177 {c : Nat → List AV → SS → Option Out} {l0 l1 l2 l3 l4 l5 l6 l7 : Option AV} {L2 : List (Nat × AV)} {St : List AV} {S : SS} : ev c 311 1177 [l0, l1, l2, l3, l4, l5, l6, l7] L2 St S = ev c 311 1178 [l0, l1, l2, l3, l4, l5, l6, l7] L2 (aI 0 :: St) S := ev_go i311_1177 rfl
theorem i311_1178 : insAt 311 1178 = some (.laload, 1, (0, 0, 0, 0), 0) := rfl
theorem s311_1178 {c : Nat → List AV → SS → Option Out} {l0 l1 l2 l3 l4 l5 l6 l7 : Option AV} {i : Int32} {o : OId} {L2 : List (Nat × AV)} {St : List AV} {S : SS} : ev c 311 1178 [l0, l1, l2, l3, l4, l5, l6, l7] L2 (aI i :: aR o :: St) S = kJ o i (ev c 311 1179 [l0, l1, l2, l3, l4, l5, l6, l7] L2 (aL (toL (S.2.1 o i.toNatClampNeg)) :: St) S) := ev_laload i311_1178
theorem i311_1179 : insAt 311 1179 = some (.iload 7, 2, (0, 0, 0, 0), 0) := rfl
theorem s311_1179 {c : Nat → List AV → SS → Option Out} {l0 l1 l2 l3 l4 l5 l6 : Option AV} {x : Int32} {L2 : List (Nat × AV)} {St : List AV} {S : SS} : ev c 311 1179 [l0, l1, l2, l3, l4, l5, l6, some (aI x)] L2 St S = ev c 311 1181 [l0, l1, l2, l3, l4, l5, l6, some (aI x)] L2 (aI x :: St) S := ev_go i311_1179 rfl
theorem i311_1181 : insAt 311 1181 = some (.i2l, 1, (0, 0, 0, 0), 0) := rfl
theorem s311_1181 {c : Nat → List AV → SS → Option Out} {l0 l1 l2 l3 l4 l5 l6 l7 : Option AV} {x : Int32} {L2 : List (Nat × AV)} {St : List AV} {S : SS} : ev c 311 1181 [l0, l1, l2, l3, l4, l5, l6, l7] L2 (aI x :: St) S = ev c 311 1182 [l0, l1, l2, l3, l4, l5, l6, l7] L2 (aL x.toInt64 :: St) S := ev_go i311_1181 rfl
theorem i311_1182 : insAt 311 1182 = some (.lcmp, 1, (0, 0, 0, 0), 0) := rfl
theorem s311_1182 {c : Nat → List AV → SS → Option Out} {l0 l1 l2 l3 l4 l5 l6 l7 : Option AV} {x y : Int64} {L2 : List (Nat × AV)} {St : List AV} {S : SS} : ev c 311 1182 [l0, l1, l2, l3, l4, l5, l6, l7] L2 (aL y :: aL x :: St) S = ev c 311 1183 [l0, l1, l2, l3, l4, l5, l6, l7] L2 (aI (if x < y then -1 else if x = y then 0 else 1) :: St) S := ev_go i311_1182 rfl
theorem i311_1183 : insAt 311 1183 = some (.ifCond .eq 5, 3, (0, 0, 0, 0), 0) := rfl
theorem s311_1183 {c : Nat → List AV → SS → Option Out} {l0 l1 l2 l3 l4 l5 l6 l7 : Option AV} {x : Int32} {L2 : List (Nat × AV)} {St : List AV} {S : SS} : ev c 311 1183 [l0, l1, l2, l3, l4, l5, l6, l7] L2 (aI x :: St) S = if x = 0 then ev c 311 1188 [l0, l1, l2, l3, l4, l5, l6, l7] L2 St S else ev c 311 1186 [l0, l1, l2, l3, l4, l5, l6, l7] L2 St S := ev_br i311_1183 rfl
theorem i311_1186 : insAt 311 1186 = some (.iconst 0, 1, (0, 0, 0, 0), 0) := rfl
theorem s311_1186 {c : Nat → List AV → SS → Option Out} {l0 l1 l2 l3 l4 l5 l6 l7 : Option AV} {L2 : List (Nat × AV)} {St : List AV} {S : SS} : ev c 311 1186 [l0, l1, l2, l3, l4, l5, l6, l7] L2 St S = ev c 311 1187 [l0, l1, l2, l3, l4, l5, l6, l7] L2 (aI 0 :: St) S := ev_go i311_1186 rfl
theorem i311_1187 : insAt 311 1187 = some (.ireturn, 1, (0, 0, 0, 0), 0) := rfl
theorem s311_1187 {c : Nat → List AV → SS → Option Out} {l0 l1 l2 l3 l4 l5 l6 l7 : Option AV} {x : Int32} {L2 : List (Nat × AV)} {S : SS} : ev c 311 1187 [l0, l1, l2, l3, l4, l5, l6, l7] L2 [aI x] S = if x = 0 ∨ x = 1 then some (.inl (some (aI x)), S) else none := ev_rt i311_1187 rfl
theorem i311_1188 : insAt 311 1188 = some (.goto 1611, 3, (0, 0, 0, 0), 0) := rfl
theorem s311_1188 {c : Nat → List AV → SS → Option Out} {l0 l1 l2 l3 l4 l5 l6 l7 : Option AV} {L2 : List (Nat × AV)} {St : List AV} {S : SS} : ev c 311 1188 [l0, l1, l2, l3, l4, l5, l6, l7] L2 St S = ev c 311 2799 [l0, l1, l2, l3, l4, l5, l6, l7] L2 St S := ev_go i311_1188 rfl
theorem i311_1191 : insAt 311 1191 = some (.aload_n 1, 1, (0, 0, 0, 0), 0) := rfl
theorem s311_1191 {c : Nat → List AV → SS → Option Out} {l0 l2 l3 l4 l5 l6 l7 : Option AV} {o : OId} {L2 : List (Nat × AV)} {St : List AV} {S : SS} : ev c 311 1191 [l0, some (aR o), l2, l3, l4, l5, l6, l7] L2 St S = ev c 311 1192 [l0, some (aR o), l2, l3, l4, l5, l6, l7] L2 (aR o :: St) S := ev_go i311_1191 rfl
theorem i311_1192 : insAt 311 1192 = some (.aload_n 0, 1, (0, 0, 0, 0), 0) := rfl
theorem s311_1192 {c : Nat → List AV → SS → Option Out} {l1 l2 l3 l4 l5 l6 l7 : Option AV} {o : OId} {L2 : List (Nat × AV)} {St : List AV} {S : SS} : ev c 311 1192 [some (aR o), l1, l2, l3, l4, l5, l6, l7] L2 St S = ev c 311 1193 [some (aR o), l1, l2, l3, l4, l5, l6, l7] L2 (aR o :: St) S := ev_go i311_1192 rfl
theorem i311_1193 : insAt 311 1193 = some (.iload 5, 2, (0, 0, 0, 0), 0) := rfl
theorem s311_1193 {c : Nat → List AV → SS → Option Out} {l0 l1 l2 l3 l4 l6 l7 : Option AV} {x : Int32} {L2 : List (Nat × AV)} {St : List AV} {S : SS} : ev c 311 1193 [l0, l1, l2, l3, l4, some (aI x), l6, l7] L2 St S = ev c 311 1195 [l0, l1, l2, l3, l4, some (aI x), l6, l7] L2 (aI x :: St) S := ev_go i311_1193 rfl
theorem i311_1195 : insAt 311 1195 = some (.iconst 1, 1, (0, 0, 0, 0), 0) := rfl
theorem s311_1195 {c : Nat → List AV → SS → Option Out} {l0 l1 l2 l3 l4 l5 l6 l7 : Option AV} {L2 : List (Nat × AV)} {St : List AV} {S : SS} : ev c 311 1195 [l0, l1, l2, l3, l4, l5, l6, l7] L2 St S = ev c 311 1196 [l0, l1, l2, l3, l4, l5, l6, l7] L2 (aI 1 :: St) S := ev_go i311_1195 rfl
theorem i311_1196 : insAt 311 1196 = some (.iadd, 1, (0, 0, 0, 0), 0) := rfl
theorem s311_1196 {c : Nat → List AV → SS → Option Out} {l0 l1 l2 l3 l4 l5 l6 l7 : Option AV} {x y : Int32} {L2 : List (Nat × AV)} {St : List AV} {S : SS} : ev c 311 1196 [l0, l1, l2, l3, l4, l5, l6, l7] L2 (aI y :: aI x :: St) S = ev c 311 1197 [l0, l1, l2, l3, l4, l5, l6, l7] L2 (aI (x + y) :: St) S := ev_go i311_1196 rfl
theorem i311_1197 : insAt 311 1197 = some (.iaload, 1, (0, 0, 0, 0), 0) := rfl
theorem s311_1197 {c : Nat → List AV → SS → Option Out} {l0 l1 l2 l3 l4 l5 l6 l7 : Option AV} {i : Int32} {o : OId} {L2 : List (Nat × AV)} {St : List AV} {S : SS} : ev c 311 1197 [l0, l1, l2, l3, l4, l5, l6, l7] L2 (aI i :: aR o :: St) S = kI o i (ev c 311 1198 [l0, l1, l2, l3, l4, l5, l6, l7] L2 (aI (agI S o i.toNatClampNeg) :: St) S) := ev_iaload i311_1197
theorem i311_1198 : insAt 311 1198 = some (.aload_n 3, 1, (0, 0, 0, 0), 0) := rfl
theorem s311_1198 {c : Nat → List AV → SS → Option Out} {l0 l1 l2 l4 l5 l6 l7 : Option AV} {o : OId} {L2 : List (Nat × AV)} {St : List AV} {S : SS} : ev c 311 1198 [l0, l1, l2, some (aR o), l4, l5, l6, l7] L2 St S = ev c 311 1199 [l0, l1, l2, some (aR o), l4, l5, l6, l7] L2 (aR o :: St) S := ev_go i311_1198 rfl
theorem i311_1199 : insAt 311 1199 = some (.invokestatic 218, 3, (114, 3, 0, 0), 480) := rfl
theorem s311_1199 {c : Nat → List AV → SS → Option Out} {l0 l1 l2 l3 l4 l5 l6 l7 : Option AV} {a0 : OId} {a1 : Int32} {a2 : OId} {L2 : List (Nat × AV)} {S : SS} : ev c 311 1199 [l0, l1, l2, l3, l4, l5, l6, l7] L2 [aR a2, aI a1, aR a0] S = ck (c 114 [aR a0, aI a1, aR a2] S) (fun v S' => ev c 311 1202 [l0, l1, l2, l3, l4, l5, l6, l7] L2 (v.toList ++ []) S') := ev_call i311_1199 rfl
theorem i311_1202 : insAt 311 1202 = some (.istore 6, 2, (0, 0, 0, 0), 0) := rfl
theorem s311_1202 {c : Nat → List AV → SS → Option Out} {l0 l1 l2 l3 l4 l5 l6 l7 : Option AV} {x : Int32} {L2 : List (Nat × AV)} {St : List AV} {S : SS} : ev c 311 1202 [l0, l1, l2, l3, l4, l5, l6, l7] L2 (aI x :: St) S = ev c 311 1204 [l0, l1, l2, l3, l4, l5, some (aI x), l7] (kil L2 6) St S := ev_go i311_1202 rfl
theorem i311_1204 : insAt 311 1204 = some (.aload_n 2, 1, (0, 0, 0, 0), 0) := rfl
theorem s311_1204 {c : Nat → List AV → SS → Option Out} {l0 l1 l3 l4 l5 l6 l7 : Option AV} {o : OId} {L2 : List (Nat × AV)} {St : List AV} {S : SS} : ev c 311 1204 [l0, l1, some (aR o), l3, l4, l5, l6, l7] L2 St S = ev c 311 1205 [l0, l1, some (aR o), l3, l4, l5, l6, l7] L2 (aR o :: St) S := ev_go i311_1204 rfl
theorem i311_1205 : insAt 311 1205 = some (.aload_n 0, 1, (0, 0, 0, 0), 0) := rfl
theorem s311_1205 {c : Nat → List AV → SS → Option Out} {l1 l2 l3 l4 l5 l6 l7 : Option AV} {o : OId} {L2 : List (Nat × AV)} {St : List AV} {S : SS} : ev c 311 1205 [some (aR o), l1, l2, l3, l4, l5, l6, l7] L2 St S = ev c 311 1206 [some (aR o), l1, l2, l3, l4, l5, l6, l7] L2 (aR o :: St) S := ev_go i311_1205 rfl
theorem i311_1206 : insAt 311 1206 = some (.iload 5, 2, (0, 0, 0, 0), 0) := rfl
theorem s311_1206 {c : Nat → List AV → SS → Option Out} {l0 l1 l2 l3 l4 l6 l7 : Option AV} {x : Int32} {L2 : List (Nat × AV)} {St : List AV} {S : SS} : ev c 311 1206 [l0, l1, l2, l3, l4, some (aI x), l6, l7] L2 St S = ev c 311 1208 [l0, l1, l2, l3, l4, some (aI x), l6, l7] L2 (aI x :: St) S := ev_go i311_1206 rfl
theorem i311_1208 : insAt 311 1208 = some (.iconst 1, 1, (0, 0, 0, 0), 0) := rfl
theorem s311_1208 {c : Nat → List AV → SS → Option Out} {l0 l1 l2 l3 l4 l5 l6 l7 : Option AV} {L2 : List (Nat × AV)} {St : List AV} {S : SS} : ev c 311 1208 [l0, l1, l2, l3, l4, l5, l6, l7] L2 St S = ev c 311 1209 [l0, l1, l2, l3, l4, l5, l6, l7] L2 (aI 1 :: St) S := ev_go i311_1208 rfl
theorem i311_1209 : insAt 311 1209 = some (.iadd, 1, (0, 0, 0, 0), 0) := rfl
theorem s311_1209 {c : Nat → List AV → SS → Option Out} {l0 l1 l2 l3 l4 l5 l6 l7 : Option AV} {x y : Int32} {L2 : List (Nat × AV)} {St : List AV} {S : SS} : ev c 311 1209 [l0, l1, l2, l3, l4, l5, l6, l7] L2 (aI y :: aI x :: St) S = ev c 311 1210 [l0, l1, l2, l3, l4, l5, l6, l7] L2 (aI (x + y) :: St) S := ev_go i311_1209 rfl
theorem i311_1210 : insAt 311 1210 = some (.iaload, 1, (0, 0, 0, 0), 0) := rfl
theorem s311_1210 {c : Nat → List AV → SS → Option Out} {l0 l1 l2 l3 l4 l5 l6 l7 : Option AV} {i : Int32} {o : OId} {L2 : List (Nat × AV)} {St : List AV} {S : SS} : ev c 311 1210 [l0, l1, l2, l3, l4, l5, l6, l7] L2 (aI i :: aR o :: St) S = kI o i (ev c 311 1211 [l0, l1, l2, l3, l4, l5, l6, l7] L2 (aI (agI S o i.toNatClampNeg) :: St) S) := ev_iaload i311_1210
theorem i311_1211 : insAt 311 1211 = some (.invokevirtual 220, 3, (271, 1, 2, 12), 481) := rfl
theorem s311_1211 {c : Nat → List AV → SS → Option Out} {l0 l1 l2 l3 l4 l5 l6 l7 : Option AV} {a0 : Int32} {j t : Nat} {L2 : List (Nat × AV)} {S : SS} : ev c 311 1211 [l0, l1, l2, l3, l4, l5, l6, l7] L2 [aI a0, aR (12, j, t)] S = ck (c 271 [aR (12, j, t), aI a0] S) (fun v S' => ev c 311 1214 [l0, l1, l2, l3, l4, l5, l6, l7] L2 (v.toList ++ []) S') := ev_call i311_1211 rfl
theorem i311_1214 : insAt 311 1214 = some (.istore 7, 2, (0, 0, 0, 0), 0) := rfl
theorem s311_1214 {c : Nat → List AV → SS → Option Out} {l0 l1 l2 l3 l4 l5 l6 l7 : Option AV} {x : Int32} {L2 : List (Nat × AV)} {St : List AV} {S : SS} : ev c 311 1214 [l0, l1, l2, l3, l4, l5, l6, l7] L2 (aI x :: St) S = ev c 311 1216 [l0, l1, l2, l3, l4, l5, l6, some (aI x)] (kil L2 7) St S := ev_go i311_1214 rfl
theorem i311_1216 : insAt 311 1216 = some (.aload_n 2, 1, (0, 0, 0, 0), 0) := rfl
theorem s311_1216 {c : Nat → List AV → SS → Option Out} {l0 l1 l3 l4 l5 l6 l7 : Option AV} {o : OId} {L2 : List (Nat × AV)} {St : List AV} {S : SS} : ev c 311 1216 [l0, l1, some (aR o), l3, l4, l5, l6, l7] L2 St S = ev c 311 1217 [l0, l1, some (aR o), l3, l4, l5, l6, l7] L2 (aR o :: St) S := ev_go i311_1216 rfl
theorem i311_1217 : insAt 311 1217 = some (.invokevirtual 149, 3, (215, 0, 2, 12), 441) := rfl
theorem s311_1217 {c : Nat → List AV → SS → Option Out} {l0 l1 l2 l3 l4 l5 l6 l7 : Option AV} {j t : Nat} {L2 : List (Nat × AV)} {S : SS} : ev c 311 1217 [l0, l1, l2, l3, l4, l5, l6, l7] L2 [aR (12, j, t)] S = ck (c 215 [aR (12, j, t)] S) (fun v S' => ev c 311 1220 [l0, l1, l2, l3, l4, l5, l6, l7] L2 (v.toList ++ []) S') := ev_call i311_1217 rfl
theorem i311_1220 : insAt 311 1220 = some (.iload 6, 2, (0, 0, 0, 0), 0) := rfl
theorem s311_1220 {c : Nat → List AV → SS → Option Out} {l0 l1 l2 l3 l4 l5 l7 : Option AV} {x : Int32} {L2 : List (Nat × AV)} {St : List AV} {S : SS} : ev c 311 1220 [l0, l1, l2, l3, l4, l5, some (aI x), l7] L2 St S = ev c 311 1222 [l0, l1, l2, l3, l4, l5, some (aI x), l7] L2 (aI x :: St) S := ev_go i311_1220 rfl
theorem i311_1222 : insAt 311 1222 = some (.if_icmp .eq 5, 3, (0, 0, 0, 0), 0) := rfl
theorem s311_1222 {c : Nat → List AV → SS → Option Out} {l0 l1 l2 l3 l4 l5 l6 l7 : Option AV} {x y : Int32} {L2 : List (Nat × AV)} {St : List AV} {S : SS} : ev c 311 1222 [l0, l1, l2, l3, l4, l5, l6, l7] L2 (aI y :: aI x :: St) S = if x = y then ev c 311 1227 [l0, l1, l2, l3, l4, l5, l6, l7] L2 St S else ev c 311 1225 [l0, l1, l2, l3, l4, l5, l6, l7] L2 St S := ev_br i311_1222 rfl
theorem i311_1225 : insAt 311 1225 = some (.iconst 0, 1, (0, 0, 0, 0), 0) := rfl
theorem s311_1225 {c : Nat → List AV → SS → Option Out} {l0 l1 l2 l3 l4 l5 l6 l7 : Option AV} {L2 : List (Nat × AV)} {St : List AV} {S : SS} : ev c 311 1225 [l0, l1, l2, l3, l4, l5, l6, l7] L2 St S = ev c 311 1226 [l0, l1, l2, l3, l4, l5, l6, l7] L2 (aI 0 :: St) S := ev_go i311_1225 rfl
theorem i311_1226 : insAt 311 1226 = some (.ireturn, 1, (0, 0, 0, 0), 0) := rfl
theorem s311_1226 {c : Nat → List AV → SS → Option Out} {l0 l1 l2 l3 l4 l5 l6 l7 : Option AV} {x : Int32} {L2 : List (Nat × AV)} {S : SS} : ev c 311 1226 [l0, l1, l2, l3, l4, l5, l6, l7] L2 [aI x] S = if x = 0 ∨ x = 1 then some (.inl (some (aI x)), S) else none := ev_rt i311_1226 rfl
theorem i311_1227 : insAt 311 1227 = some (.iload 6, 2, (0, 0, 0, 0), 0) := rfl
theorem s311_1227 {c : Nat → List AV → SS → Option Out} {l0 l1 l2 l3 l4 l5 l7 : Option AV} {x : Int32} {L2 : List (Nat × AV)} {St : List AV} {S : SS} : ev c 311 1227 [l0, l1, l2, l3, l4, l5, some (aI x), l7] L2 St S = ev c 311 1229 [l0, l1, l2, l3, l4, l5, some (aI x), l7] L2 (aI x :: St) S := ev_go i311_1227 rfl
theorem i311_1229 : insAt 311 1229 = some (.ifCond .ne 22, 3, (0, 0, 0, 0), 0) := rfl
theorem s311_1229 {c : Nat → List AV → SS → Option Out} {l0 l1 l2 l3 l4 l5 l6 l7 : Option AV} {x : Int32} {L2 : List (Nat × AV)} {St : List AV} {S : SS} : ev c 311 1229 [l0, l1, l2, l3, l4, l5, l6, l7] L2 (aI x :: St) S = if x = 0 then ev c 311 1232 [l0, l1, l2, l3, l4, l5, l6, l7] L2 St S else ev c 311 1251 [l0, l1, l2, l3, l4, l5, l6, l7] L2 St S := (ev_br i311_1229 rfl).trans (ite_not _ _ _)
theorem i311_1232 : insAt 311 1232 = some (.aload_n 3, 1, (0, 0, 0, 0), 0) := rfl
theorem s311_1232 {c : Nat → List AV → SS → Option Out} {l0 l1 l2 l4 l5 l6 l7 : Option AV} {o : OId} {L2 : List (Nat × AV)} {St : List AV} {S : SS} : ev c 311 1232 [l0, l1, l2, some (aR o), l4, l5, l6, l7] L2 St S = ev c 311 1233 [l0, l1, l2, some (aR o), l4, l5, l6, l7] L2 (aR o :: St) S := ev_go i311_1232 rfl
theorem i311_1233 : insAt 311 1233 = some (.iconst 0, 1, (0, 0, 0, 0), 0) := rfl
theorem s311_1233 {c : Nat → List AV → SS → Option Out} {l0 l1 l2 l3 l4 l5 l6 l7 : Option AV} {L2 : List (Nat × AV)} {St : List AV} {S : SS} : ev c 311 1233 [l0, l1, l2, l3, l4, l5, l6, l7] L2 St S = ev c 311 1234 [l0, l1, l2, l3, l4, l5, l6, l7] L2 (aI 0 :: St) S := ev_go i311_1233 rfl
theorem i311_1234 : insAt 311 1234 = some (.laload, 1, (0, 0, 0, 0), 0) := rfl
theorem s311_1234 {c : Nat → List AV → SS → Option Out} {l0 l1 l2 l3 l4 l5 l6 l7 : Option AV} {i : Int32} {o : OId} {L2 : List (Nat × AV)} {St : List AV} {S : SS} : ev c 311 1234 [l0, l1, l2, l3, l4, l5, l6, l7] L2 (aI i :: aR o :: St) S = kJ o i (ev c 311 1235 [l0, l1, l2, l3, l4, l5, l6, l7] L2 (aL (toL (S.2.1 o i.toNatClampNeg)) :: St) S) := ev_laload i311_1234
theorem i311_1235 : insAt 311 1235 = some (.iload 7, 2, (0, 0, 0, 0), 0) := rfl
theorem s311_1235 {c : Nat → List AV → SS → Option Out} {l0 l1 l2 l3 l4 l5 l6 : Option AV} {x : Int32} {L2 : List (Nat × AV)} {St : List AV} {S : SS} : ev c 311 1235 [l0, l1, l2, l3, l4, l5, l6, some (aI x)] L2 St S = ev c 311 1237 [l0, l1, l2, l3, l4, l5, l6, some (aI x)] L2 (aI x :: St) S := ev_go i311_1235 rfl
theorem i311_1237 : insAt 311 1237 = some (.ifCond .eq 7, 3, (0, 0, 0, 0), 0) := rfl
theorem s311_1237 {c : Nat → List AV → SS → Option Out} {l0 l1 l2 l3 l4 l5 l6 l7 : Option AV} {x : Int32} {L2 : List (Nat × AV)} {St : List AV} {S : SS} : ev c 311 1237 [l0, l1, l2, l3, l4, l5, l6, l7] L2 (aI x :: St) S = if x = 0 then ev c 311 1244 [l0, l1, l2, l3, l4, l5, l6, l7] L2 St S else ev c 311 1240 [l0, l1, l2, l3, l4, l5, l6, l7] L2 St S := ev_br i311_1237 rfl
theorem i311_1240 : insAt 311 1240 = some (.lconst 1, 1, (0, 0, 0, 0), 0) := rfl
theorem s311_1240 {c : Nat → List AV → SS → Option Out} {l0 l1 l2 l3 l4 l5 l6 l7 : Option AV} {L2 : List (Nat × AV)} {St : List AV} {S : SS} : ev c 311 1240 [l0, l1, l2, l3, l4, l5, l6, l7] L2 St S = ev c 311 1241 [l0, l1, l2, l3, l4, l5, l6, l7] L2 (aL 1 :: St) S := ev_go i311_1240 rfl
theorem i311_1241 : insAt 311 1241 = some (.goto 4, 3, (0, 0, 0, 0), 0) := rfl
theorem s311_1241 {c : Nat → List AV → SS → Option Out} {l0 l1 l2 l3 l4 l5 l6 l7 : Option AV} {L2 : List (Nat × AV)} {St : List AV} {S : SS} : ev c 311 1241 [l0, l1, l2, l3, l4, l5, l6, l7] L2 St S = ev c 311 1245 [l0, l1, l2, l3, l4, l5, l6, l7] L2 St S := ev_go i311_1241 rfl
theorem i311_1244 : insAt 311 1244 = some (.lconst 0, 1, (0, 0, 0, 0), 0) := rfl
theorem s311_1244 {c : Nat → List AV → SS → Option Out} {l0 l1 l2 l3 l4 l5 l6 l7 : Option AV} {L2 : List (Nat × AV)} {St : List AV} {S : SS} : ev c 311 1244 [l0, l1, l2, l3, l4, l5, l6, l7] L2 St S = ev c 311 1245 [l0, l1, l2, l3, l4, l5, l6, l7] L2 (aL 0 :: St) S := ev_go i311_1244 rfl
theorem i311_1245 : insAt 311 1245 = some (.lcmp, 1, (0, 0, 0, 0), 0) := rfl
theorem s311_1245 {c : Nat → List AV → SS → Option Out} {l0 l1 l2 l3 l4 l5 l6 l7 : Option AV} {x y : Int64} {L2 : List (Nat × AV)} {St : List AV} {S : SS} : ev c 311 1245 [l0, l1, l2, l3, l4, l5, l6, l7] L2 (aL y :: aL x :: St) S = ev c 311 1246 [l0, l1, l2, l3, l4, l5, l6, l7] L2 (aI (if x < y then -1 else if x = y then 0 else 1) :: St) S := ev_go i311_1245 rfl
theorem i311_1246 : insAt 311 1246 = some (.ifCond .eq 5, 3, (0, 0, 0, 0), 0) := rfl
theorem s311_1246 {c : Nat → List AV → SS → Option Out} {l0 l1 l2 l3 l4 l5 l6 l7 : Option AV} {x : Int32} {L2 : List (Nat × AV)} {St : List AV} {S : SS} : ev c 311 1246 [l0, l1, l2, l3, l4, l5, l6, l7] L2 (aI x :: St) S = if x = 0 then ev c 311 1251 [l0, l1, l2, l3, l4, l5, l6, l7] L2 St S else ev c 311 1249 [l0, l1, l2, l3, l4, l5, l6, l7] L2 St S := ev_br i311_1246 rfl
theorem i311_1249 : insAt 311 1249 = some (.iconst 0, 1, (0, 0, 0, 0), 0) := rfl
theorem s311_1249 {c : Nat → List AV → SS → Option Out} {l0 l1 l2 l3 l4 l5 l6 l7 : Option AV} {L2 : List (Nat × AV)} {St : List AV} {S : SS} : ev c 311 1249 [l0, l1, l2, l3, l4, l5, l6, l7] L2 St S = ev c 311 1250 [l0, l1, l2, l3, l4, l5, l6, l7] L2 (aI 0 :: St) S := ev_go i311_1249 rfl
theorem i311_1250 : insAt 311 1250 = some (.ireturn, 1, (0, 0, 0, 0), 0) := rfl
theorem s311_1250 {c : Nat → List AV → SS → Option Out} {l0 l1 l2 l3 l4 l5 l6 l7 : Option AV} {x : Int32} {L2 : List (Nat × AV)} {S : SS} : ev c 311 1250 [l0, l1, l2, l3, l4, l5, l6, l7] L2 [aI x] S = if x = 0 ∨ x = 1 then some (.inl (some (aI x)), S) else none := ev_rt i311_1250 rfl
theorem i311_1251 : insAt 311 1251 = some (.goto 1548, 3, (0, 0, 0, 0), 0) := rfl
theorem s311_1251 {c : Nat → List AV → SS → Option Out} {l0 l1 l2 l3 l4 l5 l6 l7 : Option AV} {L2 : List (Nat × AV)} {St : List AV} {S : SS} : ev c 311 1251 [l0, l1, l2, l3, l4, l5, l6, l7] L2 St S = ev c 311 2799 [l0, l1, l2, l3, l4, l5, l6, l7] L2 St S := ev_go i311_1251 rfl
theorem i311_1254 : insAt 311 1254 = some (.aload_n 1, 1, (0, 0, 0, 0), 0) := rfl
theorem s311_1254 {c : Nat → List AV → SS → Option Out} {l0 l2 l3 l4 l5 l6 l7 : Option AV} {o : OId} {L2 : List (Nat × AV)} {St : List AV} {S : SS} : ev c 311 1254 [l0, some (aR o), l2, l3, l4, l5, l6, l7] L2 St S = ev c 311 1255 [l0, some (aR o), l2, l3, l4, l5, l6, l7] L2 (aR o :: St) S := ev_go i311_1254 rfl
theorem i311_1255 : insAt 311 1255 = some (.invokevirtual 221, 3, (20, 0, 2, 11), 482) := rfl
theorem s311_1255 {c : Nat → List AV → SS → Option Out} {l0 l1 l2 l3 l4 l5 l6 l7 : Option AV} {j t : Nat} {L2 : List (Nat × AV)} {S : SS} : ev c 311 1255 [l0, l1, l2, l3, l4, l5, l6, l7] L2 [aR (11, j, t)] S = ck (c 20 [aR (11, j, t)] S) (fun v S' => ev c 311 1258 [l0, l1, l2, l3, l4, l5, l6, l7] L2 (v.toList ++ []) S') := ev_call i311_1255 rfl
theorem i311_1258 : insAt 311 1258 = some (.aload_n 2, 1, (0, 0, 0, 0), 0) := rfl
theorem s311_1258 {c : Nat → List AV → SS → Option Out} {l0 l1 l3 l4 l5 l6 l7 : Option AV} {o : OId} {L2 : List (Nat × AV)} {St : List AV} {S : SS} : ev c 311 1258 [l0, l1, some (aR o), l3, l4, l5, l6, l7] L2 St S = ev c 311 1259 [l0, l1, some (aR o), l3, l4, l5, l6, l7] L2 (aR o :: St) S := ev_go i311_1258 rfl
theorem i311_1259 : insAt 311 1259 = some (.invokevirtual 224, 3, (272, 0, 2, 12), 483) := rfl
theorem s311_1259 {c : Nat → List AV → SS → Option Out} {l0 l1 l2 l3 l4 l5 l6 l7 : Option AV} {t0 : AV} {j t : Nat} {L2 : List (Nat × AV)} {S : SS} : ev c 311 1259 [l0, l1, l2, l3, l4, l5, l6, l7] L2 [aR (12, j, t), t0] S = ck (c 272 [aR (12, j, t)] S) (fun v S' => ev c 311 1262 [l0, l1, l2, l3, l4, l5, l6, l7] L2 (v.toList ++ [t0]) S') := ev_call i311_1259 rfl
theorem i311_1262 : insAt 311 1262 = some (.if_icmp .eq 1537, 3, (0, 0, 0, 0), 0) := rfl
theorem s311_1262 {c : Nat → List AV → SS → Option Out} {l0 l1 l2 l3 l4 l5 l6 l7 : Option AV} {x y : Int32} {L2 : List (Nat × AV)} {St : List AV} {S : SS} : ev c 311 1262 [l0, l1, l2, l3, l4, l5, l6, l7] L2 (aI y :: aI x :: St) S = if x = y then ev c 311 2799 [l0, l1, l2, l3, l4, l5, l6, l7] L2 St S else ev c 311 1265 [l0, l1, l2, l3, l4, l5, l6, l7] L2 St S := ev_br i311_1262 rfl
theorem i311_1265 : insAt 311 1265 = some (.iconst 0, 1, (0, 0, 0, 0), 0) := rfl
theorem s311_1265 {c : Nat → List AV → SS → Option Out} {l0 l1 l2 l3 l4 l5 l6 l7 : Option AV} {L2 : List (Nat × AV)} {St : List AV} {S : SS} : ev c 311 1265 [l0, l1, l2, l3, l4, l5, l6, l7] L2 St S = ev c 311 1266 [l0, l1, l2, l3, l4, l5, l6, l7] L2 (aI 0 :: St) S := ev_go i311_1265 rfl
theorem i311_1266 : insAt 311 1266 = some (.ireturn, 1, (0, 0, 0, 0), 0) := rfl
theorem s311_1266 {c : Nat → List AV → SS → Option Out} {l0 l1 l2 l3 l4 l5 l6 l7 : Option AV} {x : Int32} {L2 : List (Nat × AV)} {S : SS} : ev c 311 1266 [l0, l1, l2, l3, l4, l5, l6, l7] L2 [aI x] S = if x = 0 ∨ x = 1 then some (.inl (some (aI x)), S) else none := ev_rt i311_1266 rfl
theorem i311_1267 : insAt 311 1267 = some (.aload_n 1, 1, (0, 0, 0, 0), 0) := rfl
theorem s311_1267 {c : Nat → List AV → SS → Option Out} {l0 l2 l3 l4 l5 l6 l7 : Option AV} {o : OId} {L2 : List (Nat × AV)} {St : List AV} {S : SS} : ev c 311 1267 [l0, some (aR o), l2, l3, l4, l5, l6, l7] L2 St S = ev c 311 1268 [l0, some (aR o), l2, l3, l4, l5, l6, l7] L2 (aR o :: St) S := ev_go i311_1267 rfl
theorem i311_1268 : insAt 311 1268 = some (.invokevirtual 225, 3, (21, 0, 2, 11), 484) := rfl
theorem s311_1268 {c : Nat → List AV → SS → Option Out} {l0 l1 l2 l3 l4 l5 l6 l7 : Option AV} {j t : Nat} {L2 : List (Nat × AV)} {S : SS} : ev c 311 1268 [l0, l1, l2, l3, l4, l5, l6, l7] L2 [aR (11, j, t)] S = ck (c 21 [aR (11, j, t)] S) (fun v S' => ev c 311 1271 [l0, l1, l2, l3, l4, l5, l6, l7] L2 (v.toList ++ []) S') := ev_call i311_1268 rfl
theorem i311_1271 : insAt 311 1271 = some (.aload_n 2, 1, (0, 0, 0, 0), 0) := rfl
theorem s311_1271 {c : Nat → List AV → SS → Option Out} {l0 l1 l3 l4 l5 l6 l7 : Option AV} {o : OId} {L2 : List (Nat × AV)} {St : List AV} {S : SS} : ev c 311 1271 [l0, l1, some (aR o), l3, l4, l5, l6, l7] L2 St S = ev c 311 1272 [l0, l1, some (aR o), l3, l4, l5, l6, l7] L2 (aR o :: St) S := ev_go i311_1271 rfl
theorem i311_1272 : insAt 311 1272 = some (.invokevirtual 228, 3, (273, 0, 2, 12), 485) := rfl
theorem s311_1272 {c : Nat → List AV → SS → Option Out} {l0 l1 l2 l3 l4 l5 l6 l7 : Option AV} {t0 : AV} {j t : Nat} {L2 : List (Nat × AV)} {S : SS} : ev c 311 1272 [l0, l1, l2, l3, l4, l5, l6, l7] L2 [aR (12, j, t), t0] S = ck (c 273 [aR (12, j, t)] S) (fun v S' => ev c 311 1275 [l0, l1, l2, l3, l4, l5, l6, l7] L2 (v.toList ++ [t0]) S') := ev_call i311_1272 rfl
theorem i311_1275 : insAt 311 1275 = some (.if_icmp .eq 1524, 3, (0, 0, 0, 0), 0) := rfl
theorem s311_1275 {c : Nat → List AV → SS → Option Out} {l0 l1 l2 l3 l4 l5 l6 l7 : Option AV} {x y : Int32} {L2 : List (Nat × AV)} {St : List AV} {S : SS} : ev c 311 1275 [l0, l1, l2, l3, l4, l5, l6, l7] L2 (aI y :: aI x :: St) S = if x = y then ev c 311 2799 [l0, l1, l2, l3, l4, l5, l6, l7] L2 St S else ev c 311 1278 [l0, l1, l2, l3, l4, l5, l6, l7] L2 St S := ev_br i311_1275 rfl
theorem i311_1278 : insAt 311 1278 = some (.iconst 0, 1, (0, 0, 0, 0), 0) := rfl
theorem s311_1278 {c : Nat → List AV → SS → Option Out} {l0 l1 l2 l3 l4 l5 l6 l7 : Option AV} {L2 : List (Nat × AV)} {St : List AV} {S : SS} : ev c 311 1278 [l0, l1, l2, l3, l4, l5, l6, l7] L2 St S = ev c 311 1279 [l0, l1, l2, l3, l4, l5, l6, l7] L2 (aI 0 :: St) S := ev_go i311_1278 rfl
theorem i311_1279 : insAt 311 1279 = some (.ireturn, 1, (0, 0, 0, 0), 0) := rfl
theorem s311_1279 {c : Nat → List AV → SS → Option Out} {l0 l1 l2 l3 l4 l5 l6 l7 : Option AV} {x : Int32} {L2 : List (Nat × AV)} {S : SS} : ev c 311 1279 [l0, l1, l2, l3, l4, l5, l6, l7] L2 [aI x] S = if x = 0 ∨ x = 1 then some (.inl (some (aI x)), S) else none := ev_rt i311_1279 rfl
theorem i311_1280 : insAt 311 1280 = some (.aload_n 1, 1, (0, 0, 0, 0), 0) := rfl
theorem s311_1280 {c : Nat → List AV → SS → Option Out} {l0 l2 l3 l4 l5 l6 l7 : Option AV} {o : OId} {L2 : List (Nat × AV)} {St : List AV} {S : SS} : ev c 311 1280 [l0, some (aR o), l2, l3, l4, l5, l6, l7] L2 St S = ev c 311 1281 [l0, some (aR o), l2, l3, l4, l5, l6, l7] L2 (aR o :: St) S := ev_go i311_1280 rfl
theorem i311_1281 : insAt 311 1281 = some (.aload_n 0, 1, (0, 0, 0, 0), 0) := rfl
theorem s311_1281 {c : Nat → List AV → SS → Option Out} {l1 l2 l3 l4 l5 l6 l7 : Option AV} {o : OId} {L2 : List (Nat × AV)} {St : List AV} {S : SS} : ev c 311 1281 [some (aR o), l1, l2, l3, l4, l5, l6, l7] L2 St S = ev c 311 1282 [some (aR o), l1, l2, l3, l4, l5, l6, l7] L2 (aR o :: St) S := ev_go i311_1281 rfl
theorem i311_1282 : insAt 311 1282 = some (.iload 5, 2, (0, 0, 0, 0), 0) := rfl
theorem s311_1282 {c : Nat → List AV → SS → Option Out} {l0 l1 l2 l3 l4 l6 l7 : Option AV} {x : Int32} {L2 : List (Nat × AV)} {St : List AV} {S : SS} : ev c 311 1282 [l0, l1, l2, l3, l4, some (aI x), l6, l7] L2 St S = ev c 311 1284 [l0, l1, l2, l3, l4, some (aI x), l6, l7] L2 (aI x :: St) S := ev_go i311_1282 rfl
theorem i311_1284 : insAt 311 1284 = some (.iconst 1, 1, (0, 0, 0, 0), 0) := rfl
theorem s311_1284 {c : Nat → List AV → SS → Option Out} {l0 l1 l2 l3 l4 l5 l6 l7 : Option AV} {L2 : List (Nat × AV)} {St : List AV} {S : SS} : ev c 311 1284 [l0, l1, l2, l3, l4, l5, l6, l7] L2 St S = ev c 311 1285 [l0, l1, l2, l3, l4, l5, l6, l7] L2 (aI 1 :: St) S := ev_go i311_1284 rfl
theorem i311_1285 : insAt 311 1285 = some (.iadd, 1, (0, 0, 0, 0), 0) := rfl
theorem s311_1285 {c : Nat → List AV → SS → Option Out} {l0 l1 l2 l3 l4 l5 l6 l7 : Option AV} {x y : Int32} {L2 : List (Nat × AV)} {St : List AV} {S : SS} : ev c 311 1285 [l0, l1, l2, l3, l4, l5, l6, l7] L2 (aI y :: aI x :: St) S = ev c 311 1286 [l0, l1, l2, l3, l4, l5, l6, l7] L2 (aI (x + y) :: St) S := ev_go i311_1285 rfl
theorem i311_1286 : insAt 311 1286 = some (.iaload, 1, (0, 0, 0, 0), 0) := rfl
theorem s311_1286 {c : Nat → List AV → SS → Option Out} {l0 l1 l2 l3 l4 l5 l6 l7 : Option AV} {i : Int32} {o : OId} {L2 : List (Nat × AV)} {St : List AV} {S : SS} : ev c 311 1286 [l0, l1, l2, l3, l4, l5, l6, l7] L2 (aI i :: aR o :: St) S = kI o i (ev c 311 1287 [l0, l1, l2, l3, l4, l5, l6, l7] L2 (aI (agI S o i.toNatClampNeg) :: St) S) := ev_iaload i311_1286
theorem i311_1287 : insAt 311 1287 = some (.aload_n 0, 1, (0, 0, 0, 0), 0) := rfl
theorem s311_1287 {c : Nat → List AV → SS → Option Out} {l1 l2 l3 l4 l5 l6 l7 : Option AV} {o : OId} {L2 : List (Nat × AV)} {St : List AV} {S : SS} : ev c 311 1287 [some (aR o), l1, l2, l3, l4, l5, l6, l7] L2 St S = ev c 311 1288 [some (aR o), l1, l2, l3, l4, l5, l6, l7] L2 (aR o :: St) S := ev_go i311_1287 rfl
theorem i311_1288 : insAt 311 1288 = some (.iload 5, 2, (0, 0, 0, 0), 0) := rfl
theorem s311_1288 {c : Nat → List AV → SS → Option Out} {l0 l1 l2 l3 l4 l6 l7 : Option AV} {x : Int32} {L2 : List (Nat × AV)} {St : List AV} {S : SS} : ev c 311 1288 [l0, l1, l2, l3, l4, some (aI x), l6, l7] L2 St S = ev c 311 1290 [l0, l1, l2, l3, l4, some (aI x), l6, l7] L2 (aI x :: St) S := ev_go i311_1288 rfl
theorem i311_1290 : insAt 311 1290 = some (.iconst 2, 1, (0, 0, 0, 0), 0) := rfl
theorem s311_1290 {c : Nat → List AV → SS → Option Out} {l0 l1 l2 l3 l4 l5 l6 l7 : Option AV} {L2 : List (Nat × AV)} {St : List AV} {S : SS} : ev c 311 1290 [l0, l1, l2, l3, l4, l5, l6, l7] L2 St S = ev c 311 1291 [l0, l1, l2, l3, l4, l5, l6, l7] L2 (aI 2 :: St) S := ev_go i311_1290 rfl
theorem i311_1291 : insAt 311 1291 = some (.iadd, 1, (0, 0, 0, 0), 0) := rfl
theorem s311_1291 {c : Nat → List AV → SS → Option Out} {l0 l1 l2 l3 l4 l5 l6 l7 : Option AV} {x y : Int32} {L2 : List (Nat × AV)} {St : List AV} {S : SS} : ev c 311 1291 [l0, l1, l2, l3, l4, l5, l6, l7] L2 (aI y :: aI x :: St) S = ev c 311 1292 [l0, l1, l2, l3, l4, l5, l6, l7] L2 (aI (x + y) :: St) S := ev_go i311_1291 rfl
theorem i311_1292 : insAt 311 1292 = some (.iaload, 1, (0, 0, 0, 0), 0) := rfl
theorem s311_1292 {c : Nat → List AV → SS → Option Out} {l0 l1 l2 l3 l4 l5 l6 l7 : Option AV} {i : Int32} {o : OId} {L2 : List (Nat × AV)} {St : List AV} {S : SS} : ev c 311 1292 [l0, l1, l2, l3, l4, l5, l6, l7] L2 (aI i :: aR o :: St) S = kI o i (ev c 311 1293 [l0, l1, l2, l3, l4, l5, l6, l7] L2 (aI (agI S o i.toNatClampNeg) :: St) S) := ev_iaload i311_1292
theorem i311_1293 : insAt 311 1293 = some (.aload_n 3, 1, (0, 0, 0, 0), 0) := rfl
theorem s311_1293 {c : Nat → List AV → SS → Option Out} {l0 l1 l2 l4 l5 l6 l7 : Option AV} {o : OId} {L2 : List (Nat × AV)} {St : List AV} {S : SS} : ev c 311 1293 [l0, l1, l2, some (aR o), l4, l5, l6, l7] L2 St S = ev c 311 1294 [l0, l1, l2, some (aR o), l4, l5, l6, l7] L2 (aR o :: St) S := ev_go i311_1293 rfl
theorem i311_1294 : insAt 311 1294 = some (.invokestatic 229, 3, (116, 4, 0, 0), 486) := rfl
theorem s311_1294 {c : Nat → List AV → SS → Option Out} {l0 l1 l2 l3 l4 l5 l6 l7 : Option AV} {a0 : OId} {a1 : Int32} {a2 : Int32} {a3 : OId} {L2 : List (Nat × AV)} {S : SS} : ev c 311 1294 [l0, l1, l2, l3, l4, l5, l6, l7] L2 [aR a3, aI a2, aI a1, aR a0] S = ck (c 116 [aR a0, aI a1, aI a2, aR a3] S) (fun v S' => ev c 311 1297 [l0, l1, l2, l3, l4, l5, l6, l7] L2 (v.toList ++ []) S') := ev_call i311_1294 rfl
theorem i311_1297 : insAt 311 1297 = some (.istore 6, 2, (0, 0, 0, 0), 0) := rfl
theorem s311_1297 {c : Nat → List AV → SS → Option Out} {l0 l1 l2 l3 l4 l5 l6 l7 : Option AV} {x : Int32} {L2 : List (Nat × AV)} {St : List AV} {S : SS} : ev c 311 1297 [l0, l1, l2, l3, l4, l5, l6, l7] L2 (aI x :: St) S = ev c 311 1299 [l0, l1, l2, l3, l4, l5, some (aI x), l7] (kil L2 6) St S := ev_go i311_1297 rfl
theorem i311_1299 : insAt 311 1299 = some (.aload_n 2, 1, (0, 0, 0, 0), 0) := rfl
theorem s311_1299 {c : Nat → List AV → SS → Option Out} {l0 l1 l3 l4 l5 l6 l7 : Option AV} {o : OId} {L2 : List (Nat × AV)} {St : List AV} {S : SS} : ev c 311 1299 [l0, l1, some (aR o), l3, l4, l5, l6, l7] L2 St S = ev c 311 1300 [l0, l1, some (aR o), l3, l4, l5, l6, l7] L2 (aR o :: St) S := ev_go i311_1299 rfl
theorem i311_1300 : insAt 311 1300 = some (.aload_n 0, 1, (0, 0, 0, 0), 0) := rfl
theorem s311_1300 {c : Nat → List AV → SS → Option Out} {l1 l2 l3 l4 l5 l6 l7 : Option AV} {o : OId} {L2 : List (Nat × AV)} {St : List AV} {S : SS} : ev c 311 1300 [some (aR o), l1, l2, l3, l4, l5, l6, l7] L2 St S = ev c 311 1301 [some (aR o), l1, l2, l3, l4, l5, l6, l7] L2 (aR o :: St) S := ev_go i311_1300 rfl
theorem i311_1301 : insAt 311 1301 = some (.iload 5, 2, (0, 0, 0, 0), 0) := rfl
theorem s311_1301 {c : Nat → List AV → SS → Option Out} {l0 l1 l2 l3 l4 l6 l7 : Option AV} {x : Int32} {L2 : List (Nat × AV)} {St : List AV} {S : SS} : ev c 311 1301 [l0, l1, l2, l3, l4, some (aI x), l6, l7] L2 St S = ev c 311 1303 [l0, l1, l2, l3, l4, some (aI x), l6, l7] L2 (aI x :: St) S := ev_go i311_1301 rfl
theorem i311_1303 : insAt 311 1303 = some (.iconst 1, 1, (0, 0, 0, 0), 0) := rfl
theorem s311_1303 {c : Nat → List AV → SS → Option Out} {l0 l1 l2 l3 l4 l5 l6 l7 : Option AV} {L2 : List (Nat × AV)} {St : List AV} {S : SS} : ev c 311 1303 [l0, l1, l2, l3, l4, l5, l6, l7] L2 St S = ev c 311 1304 [l0, l1, l2, l3, l4, l5, l6, l7] L2 (aI 1 :: St) S := ev_go i311_1303 rfl
theorem i311_1304 : insAt 311 1304 = some (.iadd, 1, (0, 0, 0, 0), 0) := rfl
theorem s311_1304 {c : Nat → List AV → SS → Option Out} {l0 l1 l2 l3 l4 l5 l6 l7 : Option AV} {x y : Int32} {L2 : List (Nat × AV)} {St : List AV} {S : SS} : ev c 311 1304 [l0, l1, l2, l3, l4, l5, l6, l7] L2 (aI y :: aI x :: St) S = ev c 311 1305 [l0, l1, l2, l3, l4, l5, l6, l7] L2 (aI (x + y) :: St) S := ev_go i311_1304 rfl
theorem i311_1305 : insAt 311 1305 = some (.iaload, 1, (0, 0, 0, 0), 0) := rfl
theorem s311_1305 {c : Nat → List AV → SS → Option Out} {l0 l1 l2 l3 l4 l5 l6 l7 : Option AV} {i : Int32} {o : OId} {L2 : List (Nat × AV)} {St : List AV} {S : SS} : ev c 311 1305 [l0, l1, l2, l3, l4, l5, l6, l7] L2 (aI i :: aR o :: St) S = kI o i (ev c 311 1306 [l0, l1, l2, l3, l4, l5, l6, l7] L2 (aI (agI S o i.toNatClampNeg) :: St) S) := ev_iaload i311_1305
theorem i311_1306 : insAt 311 1306 = some (.aload_n 0, 1, (0, 0, 0, 0), 0) := rfl
theorem s311_1306 {c : Nat → List AV → SS → Option Out} {l1 l2 l3 l4 l5 l6 l7 : Option AV} {o : OId} {L2 : List (Nat × AV)} {St : List AV} {S : SS} : ev c 311 1306 [some (aR o), l1, l2, l3, l4, l5, l6, l7] L2 St S = ev c 311 1307 [some (aR o), l1, l2, l3, l4, l5, l6, l7] L2 (aR o :: St) S := ev_go i311_1306 rfl
theorem i311_1307 : insAt 311 1307 = some (.iload 5, 2, (0, 0, 0, 0), 0) := rfl
theorem s311_1307 {c : Nat → List AV → SS → Option Out} {l0 l1 l2 l3 l4 l6 l7 : Option AV} {x : Int32} {L2 : List (Nat × AV)} {St : List AV} {S : SS} : ev c 311 1307 [l0, l1, l2, l3, l4, some (aI x), l6, l7] L2 St S = ev c 311 1309 [l0, l1, l2, l3, l4, some (aI x), l6, l7] L2 (aI x :: St) S := ev_go i311_1307 rfl
theorem i311_1309 : insAt 311 1309 = some (.iconst 2, 1, (0, 0, 0, 0), 0) := rfl
theorem s311_1309 {c : Nat → List AV → SS → Option Out} {l0 l1 l2 l3 l4 l5 l6 l7 : Option AV} {L2 : List (Nat × AV)} {St : List AV} {S : SS} : ev c 311 1309 [l0, l1, l2, l3, l4, l5, l6, l7] L2 St S = ev c 311 1310 [l0, l1, l2, l3, l4, l5, l6, l7] L2 (aI 2 :: St) S := ev_go i311_1309 rfl
theorem i311_1310 : insAt 311 1310 = some (.iadd, 1, (0, 0, 0, 0), 0) := rfl
theorem s311_1310 {c : Nat → List AV → SS → Option Out} {l0 l1 l2 l3 l4 l5 l6 l7 : Option AV} {x y : Int32} {L2 : List (Nat × AV)} {St : List AV} {S : SS} : ev c 311 1310 [l0, l1, l2, l3, l4, l5, l6, l7] L2 (aI y :: aI x :: St) S = ev c 311 1311 [l0, l1, l2, l3, l4, l5, l6, l7] L2 (aI (x + y) :: St) S := ev_go i311_1310 rfl
theorem i311_1311 : insAt 311 1311 = some (.iaload, 1, (0, 0, 0, 0), 0) := rfl
theorem s311_1311 {c : Nat → List AV → SS → Option Out} {l0 l1 l2 l3 l4 l5 l6 l7 : Option AV} {i : Int32} {o : OId} {L2 : List (Nat × AV)} {St : List AV} {S : SS} : ev c 311 1311 [l0, l1, l2, l3, l4, l5, l6, l7] L2 (aI i :: aR o :: St) S = kI o i (ev c 311 1312 [l0, l1, l2, l3, l4, l5, l6, l7] L2 (aI (agI S o i.toNatClampNeg) :: St) S) := ev_iaload i311_1311
theorem i311_1312 : insAt 311 1312 = some (.invokevirtual 231, 3, (274, 2, 2, 12), 487) := rfl
theorem s311_1312 {c : Nat → List AV → SS → Option Out} {l0 l1 l2 l3 l4 l5 l6 l7 : Option AV} {a0 : Int32} {a1 : Int32} {j t : Nat} {L2 : List (Nat × AV)} {S : SS} : ev c 311 1312 [l0, l1, l2, l3, l4, l5, l6, l7] L2 [aI a1, aI a0, aR (12, j, t)] S = ck (c 274 [aR (12, j, t), aI a0, aI a1] S) (fun v S' => ev c 311 1315 [l0, l1, l2, l3, l4, l5, l6, l7] L2 (v.toList ++ []) S') := ev_call i311_1312 rfl
theorem i311_1315 : insAt 311 1315 = some (.istore 7, 2, (0, 0, 0, 0), 0) := rfl
theorem s311_1315 {c : Nat → List AV → SS → Option Out} {l0 l1 l2 l3 l4 l5 l6 l7 : Option AV} {x : Int32} {L2 : List (Nat × AV)} {St : List AV} {S : SS} : ev c 311 1315 [l0, l1, l2, l3, l4, l5, l6, l7] L2 (aI x :: St) S = ev c 311 1317 [l0, l1, l2, l3, l4, l5, l6, some (aI x)] (kil L2 7) St S := ev_go i311_1315 rfl
theorem i311_1317 : insAt 311 1317 = some (.aload_n 2, 1, (0, 0, 0, 0), 0) := rfl
theorem s311_1317 {c : Nat → List AV → SS → Option Out} {l0 l1 l3 l4 l5 l6 l7 : Option AV} {o : OId} {L2 : List (Nat × AV)} {St : List AV} {S : SS} : ev c 311 1317 [l0, l1, some (aR o), l3, l4, l5, l6, l7] L2 St S = ev c 311 1318 [l0, l1, some (aR o), l3, l4, l5, l6, l7] L2 (aR o :: St) S := ev_go i311_1317 rfl
theorem i311_1318 : insAt 311 1318 = some (.invokevirtual 149, 3, (215, 0, 2, 12), 441) := rfl
theorem s311_1318 {c : Nat → List AV → SS → Option Out} {l0 l1 l2 l3 l4 l5 l6 l7 : Option AV} {j t : Nat} {L2 : List (Nat × AV)} {S : SS} : ev c 311 1318 [l0, l1, l2, l3, l4, l5, l6, l7] L2 [aR (12, j, t)] S = ck (c 215 [aR (12, j, t)] S) (fun v S' => ev c 311 1321 [l0, l1, l2, l3, l4, l5, l6, l7] L2 (v.toList ++ []) S') := ev_call i311_1318 rfl
theorem i311_1321 : insAt 311 1321 = some (.iload 6, 2, (0, 0, 0, 0), 0) := rfl
theorem s311_1321 {c : Nat → List AV → SS → Option Out} {l0 l1 l2 l3 l4 l5 l7 : Option AV} {x : Int32} {L2 : List (Nat × AV)} {St : List AV} {S : SS} : ev c 311 1321 [l0, l1, l2, l3, l4, l5, some (aI x), l7] L2 St S = ev c 311 1323 [l0, l1, l2, l3, l4, l5, some (aI x), l7] L2 (aI x :: St) S := ev_go i311_1321 rfl
theorem i311_1323 : insAt 311 1323 = some (.if_icmp .eq 5, 3, (0, 0, 0, 0), 0) := rfl
theorem s311_1323 {c : Nat → List AV → SS → Option Out} {l0 l1 l2 l3 l4 l5 l6 l7 : Option AV} {x y : Int32} {L2 : List (Nat × AV)} {St : List AV} {S : SS} : ev c 311 1323 [l0, l1, l2, l3, l4, l5, l6, l7] L2 (aI y :: aI x :: St) S = if x = y then ev c 311 1328 [l0, l1, l2, l3, l4, l5, l6, l7] L2 St S else ev c 311 1326 [l0, l1, l2, l3, l4, l5, l6, l7] L2 St S := ev_br i311_1323 rfl
theorem i311_1326 : insAt 311 1326 = some (.iconst 0, 1, (0, 0, 0, 0), 0) := rfl
theorem s311_1326 {c : Nat → List AV → SS → Option Out} {l0 l1 l2 l3 l4 l5 l6 l7 : Option AV} {L2 : List (Nat × AV)} {St : List AV} {S : SS} : ev c 311 1326 [l0, l1, l2, l3, l4, l5, l6, l7] L2 St S = ev c 311 1327 [l0, l1, l2, l3, l4, l5, l6, l7] L2 (aI 0 :: St) S := ev_go i311_1326 rfl
theorem i311_1327 : insAt 311 1327 = some (.ireturn, 1, (0, 0, 0, 0), 0) := rfl
theorem s311_1327 {c : Nat → List AV → SS → Option Out} {l0 l1 l2 l3 l4 l5 l6 l7 : Option AV} {x : Int32} {L2 : List (Nat × AV)} {S : SS} : ev c 311 1327 [l0, l1, l2, l3, l4, l5, l6, l7] L2 [aI x] S = if x = 0 ∨ x = 1 then some (.inl (some (aI x)), S) else none := ev_rt i311_1327 rfl
theorem i311_1328 : insAt 311 1328 = some (.iload 6, 2, (0, 0, 0, 0), 0) := rfl
theorem s311_1328 {c : Nat → List AV → SS → Option Out} {l0 l1 l2 l3 l4 l5 l7 : Option AV} {x : Int32} {L2 : List (Nat × AV)} {St : List AV} {S : SS} : ev c 311 1328 [l0, l1, l2, l3, l4, l5, some (aI x), l7] L2 St S = ev c 311 1330 [l0, l1, l2, l3, l4, l5, some (aI x), l7] L2 (aI x :: St) S := ev_go i311_1328 rfl
theorem i311_1330 : insAt 311 1330 = some (.ifCond .ne 15, 3, (0, 0, 0, 0), 0) := rfl
theorem s311_1330 {c : Nat → List AV → SS → Option Out} {l0 l1 l2 l3 l4 l5 l6 l7 : Option AV} {x : Int32} {L2 : List (Nat × AV)} {St : List AV} {S : SS} : ev c 311 1330 [l0, l1, l2, l3, l4, l5, l6, l7] L2 (aI x :: St) S = if x = 0 then ev c 311 1333 [l0, l1, l2, l3, l4, l5, l6, l7] L2 St S else ev c 311 1345 [l0, l1, l2, l3, l4, l5, l6, l7] L2 St S := (ev_br i311_1330 rfl).trans (ite_not _ _ _)
theorem i311_1333 : insAt 311 1333 = some (.aload_n 3, 1, (0, 0, 0, 0), 0) := rfl
theorem s311_1333 {c : Nat → List AV → SS → Option Out} {l0 l1 l2 l4 l5 l6 l7 : Option AV} {o : OId} {L2 : List (Nat × AV)} {St : List AV} {S : SS} : ev c 311 1333 [l0, l1, l2, some (aR o), l4, l5, l6, l7] L2 St S = ev c 311 1334 [l0, l1, l2, some (aR o), l4, l5, l6, l7] L2 (aR o :: St) S := ev_go i311_1333 rfl
theorem i311_1334 : insAt 311 1334 = some (.iconst 0, 1, (0, 0, 0, 0), 0) := rfl
theorem s311_1334 {c : Nat → List AV → SS → Option Out} {l0 l1 l2 l3 l4 l5 l6 l7 : Option AV} {L2 : List (Nat × AV)} {St : List AV} {S : SS} : ev c 311 1334 [l0, l1, l2, l3, l4, l5, l6, l7] L2 St S = ev c 311 1335 [l0, l1, l2, l3, l4, l5, l6, l7] L2 (aI 0 :: St) S := ev_go i311_1334 rfl
theorem i311_1335 : insAt 311 1335 = some (.laload, 1, (0, 0, 0, 0), 0) := rfl
theorem s311_1335 {c : Nat → List AV → SS → Option Out} {l0 l1 l2 l3 l4 l5 l6 l7 : Option AV} {i : Int32} {o : OId} {L2 : List (Nat × AV)} {St : List AV} {S : SS} : ev c 311 1335 [l0, l1, l2, l3, l4, l5, l6, l7] L2 (aI i :: aR o :: St) S = kJ o i (ev c 311 1336 [l0, l1, l2, l3, l4, l5, l6, l7] L2 (aL (toL (S.2.1 o i.toNatClampNeg)) :: St) S) := ev_laload i311_1335
theorem i311_1336 : insAt 311 1336 = some (.iload 7, 2, (0, 0, 0, 0), 0) := rfl
theorem s311_1336 {c : Nat → List AV → SS → Option Out} {l0 l1 l2 l3 l4 l5 l6 : Option AV} {x : Int32} {L2 : List (Nat × AV)} {St : List AV} {S : SS} : ev c 311 1336 [l0, l1, l2, l3, l4, l5, l6, some (aI x)] L2 St S = ev c 311 1338 [l0, l1, l2, l3, l4, l5, l6, some (aI x)] L2 (aI x :: St) S := ev_go i311_1336 rfl
theorem i311_1338 : insAt 311 1338 = some (.i2l, 1, (0, 0, 0, 0), 0) := rfl
theorem s311_1338 {c : Nat → List AV → SS → Option Out} {l0 l1 l2 l3 l4 l5 l6 l7 : Option AV} {x : Int32} {L2 : List (Nat × AV)} {St : List AV} {S : SS} : ev c 311 1338 [l0, l1, l2, l3, l4, l5, l6, l7] L2 (aI x :: St) S = ev c 311 1339 [l0, l1, l2, l3, l4, l5, l6, l7] L2 (aL x.toInt64 :: St) S := ev_go i311_1338 rfl
theorem i311_1339 : insAt 311 1339 = some (.lcmp, 1, (0, 0, 0, 0), 0) := rfl
theorem s311_1339 {c : Nat → List AV → SS → Option Out} {l0 l1 l2 l3 l4 l5 l6 l7 : Option AV} {x y : Int64} {L2 : List (Nat × AV)} {St : List AV} {S : SS} : ev c 311 1339 [l0, l1, l2, l3, l4, l5, l6, l7] L2 (aL y :: aL x :: St) S = ev c 311 1340 [l0, l1, l2, l3, l4, l5, l6, l7] L2 (aI (if x < y then -1 else if x = y then 0 else 1) :: St) S := ev_go i311_1339 rfl
theorem i311_1340 : insAt 311 1340 = some (.ifCond .eq 5, 3, (0, 0, 0, 0), 0) := rfl
theorem s311_1340 {c : Nat → List AV → SS → Option Out} {l0 l1 l2 l3 l4 l5 l6 l7 : Option AV} {x : Int32} {L2 : List (Nat × AV)} {St : List AV} {S : SS} : ev c 311 1340 [l0, l1, l2, l3, l4, l5, l6, l7] L2 (aI x :: St) S = if x = 0 then ev c 311 1345 [l0, l1, l2, l3, l4, l5, l6, l7] L2 St S else ev c 311 1343 [l0, l1, l2, l3, l4, l5, l6, l7] L2 St S := ev_br i311_1340 rfl
theorem i311_1343 : insAt 311 1343 = some (.iconst 0, 1, (0, 0, 0, 0), 0) := rfl
theorem s311_1343 {c : Nat → List AV → SS → Option Out} {l0 l1 l2 l3 l4 l5 l6 l7 : Option AV} {L2 : List (Nat × AV)} {St : List AV} {S : SS} : ev c 311 1343 [l0, l1, l2, l3, l4, l5, l6, l7] L2 St S = ev c 311 1344 [l0, l1, l2, l3, l4, l5, l6, l7] L2 (aI 0 :: St) S := ev_go i311_1343 rfl
theorem i311_1344 : insAt 311 1344 = some (.ireturn, 1, (0, 0, 0, 0), 0) := rfl
theorem s311_1344 {c : Nat → List AV → SS → Option Out} {l0 l1 l2 l3 l4 l5 l6 l7 : Option AV} {x : Int32} {L2 : List (Nat × AV)} {S : SS} : ev c 311 1344 [l0, l1, l2, l3, l4, l5, l6, l7] L2 [aI x] S = if x = 0 ∨ x = 1 then some (.inl (some (aI x)), S) else none := ev_rt i311_1344 rfl
theorem i311_1345 : insAt 311 1345 = some (.goto 1454, 3, (0, 0, 0, 0), 0) := rfl
theorem s311_1345 {c : Nat → List AV → SS → Option Out} {l0 l1 l2 l3 l4 l5 l6 l7 : Option AV} {L2 : List (Nat × AV)} {St : List AV} {S : SS} : ev c 311 1345 [l0, l1, l2, l3, l4, l5, l6, l7] L2 St S = ev c 311 2799 [l0, l1, l2, l3, l4, l5, l6, l7] L2 St S := ev_go i311_1345 rfl
theorem i311_1348 : insAt 311 1348 = some (.aload_n 1, 1, (0, 0, 0, 0), 0) := rfl
theorem s311_1348 {c : Nat → List AV → SS → Option Out} {l0 l2 l3 l4 l5 l6 l7 : Option AV} {o : OId} {L2 : List (Nat × AV)} {St : List AV} {S : SS} : ev c 311 1348 [l0, some (aR o), l2, l3, l4, l5, l6, l7] L2 St S = ev c 311 1349 [l0, some (aR o), l2, l3, l4, l5, l6, l7] L2 (aR o :: St) S := ev_go i311_1348 rfl
theorem i311_1349 : insAt 311 1349 = some (.aload_n 0, 1, (0, 0, 0, 0), 0) := rfl
theorem s311_1349 {c : Nat → List AV → SS → Option Out} {l1 l2 l3 l4 l5 l6 l7 : Option AV} {o : OId} {L2 : List (Nat × AV)} {St : List AV} {S : SS} : ev c 311 1349 [some (aR o), l1, l2, l3, l4, l5, l6, l7] L2 St S = ev c 311 1350 [some (aR o), l1, l2, l3, l4, l5, l6, l7] L2 (aR o :: St) S := ev_go i311_1349 rfl
theorem i311_1350 : insAt 311 1350 = some (.iload 5, 2, (0, 0, 0, 0), 0) := rfl
theorem s311_1350 {c : Nat → List AV → SS → Option Out} {l0 l1 l2 l3 l4 l6 l7 : Option AV} {x : Int32} {L2 : List (Nat × AV)} {St : List AV} {S : SS} : ev c 311 1350 [l0, l1, l2, l3, l4, some (aI x), l6, l7] L2 St S = ev c 311 1352 [l0, l1, l2, l3, l4, some (aI x), l6, l7] L2 (aI x :: St) S := ev_go i311_1350 rfl
theorem i311_1352 : insAt 311 1352 = some (.iconst 1, 1, (0, 0, 0, 0), 0) := rfl
theorem s311_1352 {c : Nat → List AV → SS → Option Out} {l0 l1 l2 l3 l4 l5 l6 l7 : Option AV} {L2 : List (Nat × AV)} {St : List AV} {S : SS} : ev c 311 1352 [l0, l1, l2, l3, l4, l5, l6, l7] L2 St S = ev c 311 1353 [l0, l1, l2, l3, l4, l5, l6, l7] L2 (aI 1 :: St) S := ev_go i311_1352 rfl
theorem i311_1353 : insAt 311 1353 = some (.iadd, 1, (0, 0, 0, 0), 0) := rfl
theorem s311_1353 {c : Nat → List AV → SS → Option Out} {l0 l1 l2 l3 l4 l5 l6 l7 : Option AV} {x y : Int32} {L2 : List (Nat × AV)} {St : List AV} {S : SS} : ev c 311 1353 [l0, l1, l2, l3, l4, l5, l6, l7] L2 (aI y :: aI x :: St) S = ev c 311 1354 [l0, l1, l2, l3, l4, l5, l6, l7] L2 (aI (x + y) :: St) S := ev_go i311_1353 rfl
theorem i311_1354 : insAt 311 1354 = some (.iaload, 1, (0, 0, 0, 0), 0) := rfl
theorem s311_1354 {c : Nat → List AV → SS → Option Out} {l0 l1 l2 l3 l4 l5 l6 l7 : Option AV} {i : Int32} {o : OId} {L2 : List (Nat × AV)} {St : List AV} {S : SS} : ev c 311 1354 [l0, l1, l2, l3, l4, l5, l6, l7] L2 (aI i :: aR o :: St) S = kI o i (ev c 311 1355 [l0, l1, l2, l3, l4, l5, l6, l7] L2 (aI (agI S o i.toNatClampNeg) :: St) S) := ev_iaload i311_1354
theorem i311_1355 : insAt 311 1355 = some (.aload_n 0, 1, (0, 0, 0, 0), 0) := rfl
theorem s311_1355 {c : Nat → List AV → SS → Option Out} {l1 l2 l3 l4 l5 l6 l7 : Option AV} {o : OId} {L2 : List (Nat × AV)} {St : List AV} {S : SS} : ev c 311 1355 [some (aR o), l1, l2, l3, l4, l5, l6, l7] L2 St S = ev c 311 1356 [some (aR o), l1, l2, l3, l4, l5, l6, l7] L2 (aR o :: St) S := ev_go i311_1355 rfl
theorem i311_1356 : insAt 311 1356 = some (.iload 5, 2, (0, 0, 0, 0), 0) := rfl
theorem s311_1356 {c : Nat → List AV → SS → Option Out} {l0 l1 l2 l3 l4 l6 l7 : Option AV} {x : Int32} {L2 : List (Nat × AV)} {St : List AV} {S : SS} : ev c 311 1356 [l0, l1, l2, l3, l4, some (aI x), l6, l7] L2 St S = ev c 311 1358 [l0, l1, l2, l3, l4, some (aI x), l6, l7] L2 (aI x :: St) S := ev_go i311_1356 rfl
theorem i311_1358 : insAt 311 1358 = some (.iconst 2, 1, (0, 0, 0, 0), 0) := rfl
theorem s311_1358 {c : Nat → List AV → SS → Option Out} {l0 l1 l2 l3 l4 l5 l6 l7 : Option AV} {L2 : List (Nat × AV)} {St : List AV} {S : SS} : ev c 311 1358 [l0, l1, l2, l3, l4, l5, l6, l7] L2 St S = ev c 311 1359 [l0, l1, l2, l3, l4, l5, l6, l7] L2 (aI 2 :: St) S := ev_go i311_1358 rfl
theorem i311_1359 : insAt 311 1359 = some (.iadd, 1, (0, 0, 0, 0), 0) := rfl
theorem s311_1359 {c : Nat → List AV → SS → Option Out} {l0 l1 l2 l3 l4 l5 l6 l7 : Option AV} {x y : Int32} {L2 : List (Nat × AV)} {St : List AV} {S : SS} : ev c 311 1359 [l0, l1, l2, l3, l4, l5, l6, l7] L2 (aI y :: aI x :: St) S = ev c 311 1360 [l0, l1, l2, l3, l4, l5, l6, l7] L2 (aI (x + y) :: St) S := ev_go i311_1359 rfl
theorem i311_1360 : insAt 311 1360 = some (.iaload, 1, (0, 0, 0, 0), 0) := rfl
theorem s311_1360 {c : Nat → List AV → SS → Option Out} {l0 l1 l2 l3 l4 l5 l6 l7 : Option AV} {i : Int32} {o : OId} {L2 : List (Nat × AV)} {St : List AV} {S : SS} : ev c 311 1360 [l0, l1, l2, l3, l4, l5, l6, l7] L2 (aI i :: aR o :: St) S = kI o i (ev c 311 1361 [l0, l1, l2, l3, l4, l5, l6, l7] L2 (aI (agI S o i.toNatClampNeg) :: St) S) := ev_iaload i311_1360
theorem i311_1361 : insAt 311 1361 = some (.aload_n 3, 1, (0, 0, 0, 0), 0) := rfl
theorem s311_1361 {c : Nat → List AV → SS → Option Out} {l0 l1 l2 l4 l5 l6 l7 : Option AV} {o : OId} {L2 : List (Nat × AV)} {St : List AV} {S : SS} : ev c 311 1361 [l0, l1, l2, some (aR o), l4, l5, l6, l7] L2 St S = ev c 311 1362 [l0, l1, l2, some (aR o), l4, l5, l6, l7] L2 (aR o :: St) S := ev_go i311_1361 rfl
theorem i311_1362 : insAt 311 1362 = some (.invokestatic 232, 3, (120, 4, 0, 0), 488) := rfl
theorem s311_1362 {c : Nat → List AV → SS → Option Out} {l0 l1 l2 l3 l4 l5 l6 l7 : Option AV} {a0 : OId} {a1 : Int32} {a2 : Int32} {a3 : OId} {L2 : List (Nat × AV)} {S : SS} : ev c 311 1362 [l0, l1, l2, l3, l4, l5, l6, l7] L2 [aR a3, aI a2, aI a1, aR a0] S = ck (c 120 [aR a0, aI a1, aI a2, aR a3] S) (fun v S' => ev c 311 1365 [l0, l1, l2, l3, l4, l5, l6, l7] L2 (v.toList ++ []) S') := ev_call i311_1362 rfl
theorem i311_1365 : insAt 311 1365 = some (.istore 6, 2, (0, 0, 0, 0), 0) := rfl
theorem s311_1365 {c : Nat → List AV → SS → Option Out} {l0 l1 l2 l3 l4 l5 l6 l7 : Option AV} {x : Int32} {L2 : List (Nat × AV)} {St : List AV} {S : SS} : ev c 311 1365 [l0, l1, l2, l3, l4, l5, l6, l7] L2 (aI x :: St) S = ev c 311 1367 [l0, l1, l2, l3, l4, l5, some (aI x), l7] (kil L2 6) St S := ev_go i311_1365 rfl
theorem i311_1367 : insAt 311 1367 = some (.aload_n 2, 1, (0, 0, 0, 0), 0) := rfl
theorem s311_1367 {c : Nat → List AV → SS → Option Out} {l0 l1 l3 l4 l5 l6 l7 : Option AV} {o : OId} {L2 : List (Nat × AV)} {St : List AV} {S : SS} : ev c 311 1367 [l0, l1, some (aR o), l3, l4, l5, l6, l7] L2 St S = ev c 311 1368 [l0, l1, some (aR o), l3, l4, l5, l6, l7] L2 (aR o :: St) S := ev_go i311_1367 rfl
theorem i311_1368 : insAt 311 1368 = some (.aload_n 0, 1, (0, 0, 0, 0), 0) := rfl
theorem s311_1368 {c : Nat → List AV → SS → Option Out} {l1 l2 l3 l4 l5 l6 l7 : Option AV} {o : OId} {L2 : List (Nat × AV)} {St : List AV} {S : SS} : ev c 311 1368 [some (aR o), l1, l2, l3, l4, l5, l6, l7] L2 St S = ev c 311 1369 [some (aR o), l1, l2, l3, l4, l5, l6, l7] L2 (aR o :: St) S := ev_go i311_1368 rfl
theorem i311_1369 : insAt 311 1369 = some (.iload 5, 2, (0, 0, 0, 0), 0) := rfl
theorem s311_1369 {c : Nat → List AV → SS → Option Out} {l0 l1 l2 l3 l4 l6 l7 : Option AV} {x : Int32} {L2 : List (Nat × AV)} {St : List AV} {S : SS} : ev c 311 1369 [l0, l1, l2, l3, l4, some (aI x), l6, l7] L2 St S = ev c 311 1371 [l0, l1, l2, l3, l4, some (aI x), l6, l7] L2 (aI x :: St) S := ev_go i311_1369 rfl
theorem i311_1371 : insAt 311 1371 = some (.iconst 1, 1, (0, 0, 0, 0), 0) := rfl
theorem s311_1371 {c : Nat → List AV → SS → Option Out} {l0 l1 l2 l3 l4 l5 l6 l7 : Option AV} {L2 : List (Nat × AV)} {St : List AV} {S : SS} : ev c 311 1371 [l0, l1, l2, l3, l4, l5, l6, l7] L2 St S = ev c 311 1372 [l0, l1, l2, l3, l4, l5, l6, l7] L2 (aI 1 :: St) S := ev_go i311_1371 rfl
theorem i311_1372 : insAt 311 1372 = some (.iadd, 1, (0, 0, 0, 0), 0) := rfl
theorem s311_1372 {c : Nat → List AV → SS → Option Out} {l0 l1 l2 l3 l4 l5 l6 l7 : Option AV} {x y : Int32} {L2 : List (Nat × AV)} {St : List AV} {S : SS} : ev c 311 1372 [l0, l1, l2, l3, l4, l5, l6, l7] L2 (aI y :: aI x :: St) S = ev c 311 1373 [l0, l1, l2, l3, l4, l5, l6, l7] L2 (aI (x + y) :: St) S := ev_go i311_1372 rfl
theorem i311_1373 : insAt 311 1373 = some (.iaload, 1, (0, 0, 0, 0), 0) := rfl
theorem s311_1373 {c : Nat → List AV → SS → Option Out} {l0 l1 l2 l3 l4 l5 l6 l7 : Option AV} {i : Int32} {o : OId} {L2 : List (Nat × AV)} {St : List AV} {S : SS} : ev c 311 1373 [l0, l1, l2, l3, l4, l5, l6, l7] L2 (aI i :: aR o :: St) S = kI o i (ev c 311 1374 [l0, l1, l2, l3, l4, l5, l6, l7] L2 (aI (agI S o i.toNatClampNeg) :: St) S) := ev_iaload i311_1373
theorem i311_1374 : insAt 311 1374 = some (.aload_n 0, 1, (0, 0, 0, 0), 0) := rfl
theorem s311_1374 {c : Nat → List AV → SS → Option Out} {l1 l2 l3 l4 l5 l6 l7 : Option AV} {o : OId} {L2 : List (Nat × AV)} {St : List AV} {S : SS} : ev c 311 1374 [some (aR o), l1, l2, l3, l4, l5, l6, l7] L2 St S = ev c 311 1375 [some (aR o), l1, l2, l3, l4, l5, l6, l7] L2 (aR o :: St) S := ev_go i311_1374 rfl
theorem i311_1375 : insAt 311 1375 = some (.iload 5, 2, (0, 0, 0, 0), 0) := rfl
theorem s311_1375 {c : Nat → List AV → SS → Option Out} {l0 l1 l2 l3 l4 l6 l7 : Option AV} {x : Int32} {L2 : List (Nat × AV)} {St : List AV} {S : SS} : ev c 311 1375 [l0, l1, l2, l3, l4, some (aI x), l6, l7] L2 St S = ev c 311 1377 [l0, l1, l2, l3, l4, some (aI x), l6, l7] L2 (aI x :: St) S := ev_go i311_1375 rfl
theorem i311_1377 : insAt 311 1377 = some (.iconst 2, 1, (0, 0, 0, 0), 0) := rfl
theorem s311_1377 {c : Nat → List AV → SS → Option Out} {l0 l1 l2 l3 l4 l5 l6 l7 : Option AV} {L2 : List (Nat × AV)} {St : List AV} {S : SS} : ev c 311 1377 [l0, l1, l2, l3, l4, l5, l6, l7] L2 St S = ev c 311 1378 [l0, l1, l2, l3, l4, l5, l6, l7] L2 (aI 2 :: St) S := ev_go i311_1377 rfl
theorem i311_1378 : insAt 311 1378 = some (.iadd, 1, (0, 0, 0, 0), 0) := rfl
theorem s311_1378 {c : Nat → List AV → SS → Option Out} {l0 l1 l2 l3 l4 l5 l6 l7 : Option AV} {x y : Int32} {L2 : List (Nat × AV)} {St : List AV} {S : SS} : ev c 311 1378 [l0, l1, l2, l3, l4, l5, l6, l7] L2 (aI y :: aI x :: St) S = ev c 311 1379 [l0, l1, l2, l3, l4, l5, l6, l7] L2 (aI (x + y) :: St) S := ev_go i311_1378 rfl
theorem i311_1379 : insAt 311 1379 = some (.iaload, 1, (0, 0, 0, 0), 0) := rfl
theorem s311_1379 {c : Nat → List AV → SS → Option Out} {l0 l1 l2 l3 l4 l5 l6 l7 : Option AV} {i : Int32} {o : OId} {L2 : List (Nat × AV)} {St : List AV} {S : SS} : ev c 311 1379 [l0, l1, l2, l3, l4, l5, l6, l7] L2 (aI i :: aR o :: St) S = kI o i (ev c 311 1380 [l0, l1, l2, l3, l4, l5, l6, l7] L2 (aI (agI S o i.toNatClampNeg) :: St) S) := ev_iaload i311_1379
theorem i311_1380 : insAt 311 1380 = some (.invokevirtual 234, 3, (276, 2, 2, 12), 489) := rfl
theorem s311_1380 {c : Nat → List AV → SS → Option Out} {l0 l1 l2 l3 l4 l5 l6 l7 : Option AV} {a0 : Int32} {a1 : Int32} {j t : Nat} {L2 : List (Nat × AV)} {S : SS} : ev c 311 1380 [l0, l1, l2, l3, l4, l5, l6, l7] L2 [aI a1, aI a0, aR (12, j, t)] S = ck (c 276 [aR (12, j, t), aI a0, aI a1] S) (fun v S' => ev c 311 1383 [l0, l1, l2, l3, l4, l5, l6, l7] L2 (v.toList ++ []) S') := ev_call i311_1380 rfl
theorem i311_1383 : insAt 311 1383 = some (.istore 7, 2, (0, 0, 0, 0), 0) := rfl
theorem s311_1383 {c : Nat → List AV → SS → Option Out} {l0 l1 l2 l3 l4 l5 l6 l7 : Option AV} {x : Int32} {L2 : List (Nat × AV)} {St : List AV} {S : SS} : ev c 311 1383 [l0, l1, l2, l3, l4, l5, l6, l7] L2 (aI x :: St) S = ev c 311 1385 [l0, l1, l2, l3, l4, l5, l6, some (aI x)] (kil L2 7) St S := ev_go i311_1383 rfl
theorem i311_1385 : insAt 311 1385 = some (.aload_n 2, 1, (0, 0, 0, 0), 0) := rfl
theorem s311_1385 {c : Nat → List AV → SS → Option Out} {l0 l1 l3 l4 l5 l6 l7 : Option AV} {o : OId} {L2 : List (Nat × AV)} {St : List AV} {S : SS} : ev c 311 1385 [l0, l1, some (aR o), l3, l4, l5, l6, l7] L2 St S = ev c 311 1386 [l0, l1, some (aR o), l3, l4, l5, l6, l7] L2 (aR o :: St) S := ev_go i311_1385 rfl
theorem i311_1386 : insAt 311 1386 = some (.invokevirtual 149, 3, (215, 0, 2, 12), 441) := rfl
theorem s311_1386 {c : Nat → List AV → SS → Option Out} {l0 l1 l2 l3 l4 l5 l6 l7 : Option AV} {j t : Nat} {L2 : List (Nat × AV)} {S : SS} : ev c 311 1386 [l0, l1, l2, l3, l4, l5, l6, l7] L2 [aR (12, j, t)] S = ck (c 215 [aR (12, j, t)] S) (fun v S' => ev c 311 1389 [l0, l1, l2, l3, l4, l5, l6, l7] L2 (v.toList ++ []) S') := ev_call i311_1386 rfl
theorem i311_1389 : insAt 311 1389 = some (.iload 6, 2, (0, 0, 0, 0), 0) := rfl
theorem s311_1389 {c : Nat → List AV → SS → Option Out} {l0 l1 l2 l3 l4 l5 l7 : Option AV} {x : Int32} {L2 : List (Nat × AV)} {St : List AV} {S : SS} : ev c 311 1389 [l0, l1, l2, l3, l4, l5, some (aI x), l7] L2 St S = ev c 311 1391 [l0, l1, l2, l3, l4, l5, some (aI x), l7] L2 (aI x :: St) S := ev_go i311_1389 rfl
theorem i311_1391 : insAt 311 1391 = some (.if_icmp .eq 5, 3, (0, 0, 0, 0), 0) := rfl
theorem s311_1391 {c : Nat → List AV → SS → Option Out} {l0 l1 l2 l3 l4 l5 l6 l7 : Option AV} {x y : Int32} {L2 : List (Nat × AV)} {St : List AV} {S : SS} : ev c 311 1391 [l0, l1, l2, l3, l4, l5, l6, l7] L2 (aI y :: aI x :: St) S = if x = y then ev c 311 1396 [l0, l1, l2, l3, l4, l5, l6, l7] L2 St S else ev c 311 1394 [l0, l1, l2, l3, l4, l5, l6, l7] L2 St S := ev_br i311_1391 rfl
theorem i311_1394 : insAt 311 1394 = some (.iconst 0, 1, (0, 0, 0, 0), 0) := rfl
theorem s311_1394 {c : Nat → List AV → SS → Option Out} {l0 l1 l2 l3 l4 l5 l6 l7 : Option AV} {L2 : List (Nat × AV)} {St : List AV} {S : SS} : ev c 311 1394 [l0, l1, l2, l3, l4, l5, l6, l7] L2 St S = ev c 311 1395 [l0, l1, l2, l3, l4, l5, l6, l7] L2 (aI 0 :: St) S := ev_go i311_1394 rfl
theorem i311_1395 : insAt 311 1395 = some (.ireturn, 1, (0, 0, 0, 0), 0) := rfl
theorem s311_1395 {c : Nat → List AV → SS → Option Out} {l0 l1 l2 l3 l4 l5 l6 l7 : Option AV} {x : Int32} {L2 : List (Nat × AV)} {S : SS} : ev c 311 1395 [l0, l1, l2, l3, l4, l5, l6, l7] L2 [aI x] S = if x = 0 ∨ x = 1 then some (.inl (some (aI x)), S) else none := ev_rt i311_1395 rfl
theorem i311_1396 : insAt 311 1396 = some (.iload 6, 2, (0, 0, 0, 0), 0) := rfl
theorem s311_1396 {c : Nat → List AV → SS → Option Out} {l0 l1 l2 l3 l4 l5 l7 : Option AV} {x : Int32} {L2 : List (Nat × AV)} {St : List AV} {S : SS} : ev c 311 1396 [l0, l1, l2, l3, l4, l5, some (aI x), l7] L2 St S = ev c 311 1398 [l0, l1, l2, l3, l4, l5, some (aI x), l7] L2 (aI x :: St) S := ev_go i311_1396 rfl
theorem i311_1398 : insAt 311 1398 = some (.ifCond .ne 15, 3, (0, 0, 0, 0), 0) := rfl
theorem s311_1398 {c : Nat → List AV → SS → Option Out} {l0 l1 l2 l3 l4 l5 l6 l7 : Option AV} {x : Int32} {L2 : List (Nat × AV)} {St : List AV} {S : SS} : ev c 311 1398 [l0, l1, l2, l3, l4, l5, l6, l7] L2 (aI x :: St) S = if x = 0 then ev c 311 1401 [l0, l1, l2, l3, l4, l5, l6, l7] L2 St S else ev c 311 1413 [l0, l1, l2, l3, l4, l5, l6, l7] L2 St S := (ev_br i311_1398 rfl).trans (ite_not _ _ _)
theorem i311_1401 : insAt 311 1401 = some (.aload_n 3, 1, (0, 0, 0, 0), 0) := rfl
theorem s311_1401 {c : Nat → List AV → SS → Option Out} {l0 l1 l2 l4 l5 l6 l7 : Option AV} {o : OId} {L2 : List (Nat × AV)} {St : List AV} {S : SS} : ev c 311 1401 [l0, l1, l2, some (aR o), l4, l5, l6, l7] L2 St S = ev c 311 1402 [l0, l1, l2, some (aR o), l4, l5, l6, l7] L2 (aR o :: St) S := ev_go i311_1401 rfl
theorem i311_1402 : insAt 311 1402 = some (.iconst 0, 1, (0, 0, 0, 0), 0) := rfl
theorem s311_1402 {c : Nat → List AV → SS → Option Out} {l0 l1 l2 l3 l4 l5 l6 l7 : Option AV} {L2 : List (Nat × AV)} {St : List AV} {S : SS} : ev c 311 1402 [l0, l1, l2, l3, l4, l5, l6, l7] L2 St S = ev c 311 1403 [l0, l1, l2, l3, l4, l5, l6, l7] L2 (aI 0 :: St) S := ev_go i311_1402 rfl
theorem i311_1403 : insAt 311 1403 = some (.laload, 1, (0, 0, 0, 0), 0) := rfl
theorem s311_1403 {c : Nat → List AV → SS → Option Out} {l0 l1 l2 l3 l4 l5 l6 l7 : Option AV} {i : Int32} {o : OId} {L2 : List (Nat × AV)} {St : List AV} {S : SS} : ev c 311 1403 [l0, l1, l2, l3, l4, l5, l6, l7] L2 (aI i :: aR o :: St) S = kJ o i (ev c 311 1404 [l0, l1, l2, l3, l4, l5, l6, l7] L2 (aL (toL (S.2.1 o i.toNatClampNeg)) :: St) S) := ev_laload i311_1403
theorem i311_1404 : insAt 311 1404 = some (.iload 7, 2, (0, 0, 0, 0), 0) := rfl
theorem s311_1404 {c : Nat → List AV → SS → Option Out} {l0 l1 l2 l3 l4 l5 l6 : Option AV} {x : Int32} {L2 : List (Nat × AV)} {St : List AV} {S : SS} : ev c 311 1404 [l0, l1, l2, l3, l4, l5, l6, some (aI x)] L2 St S = ev c 311 1406 [l0, l1, l2, l3, l4, l5, l6, some (aI x)] L2 (aI x :: St) S := ev_go i311_1404 rfl
theorem i311_1406 : insAt 311 1406 = some (.i2l, 1, (0, 0, 0, 0), 0) := rfl
theorem s311_1406 {c : Nat → List AV → SS → Option Out} {l0 l1 l2 l3 l4 l5 l6 l7 : Option AV} {x : Int32} {L2 : List (Nat × AV)} {St : List AV} {S : SS} : ev c 311 1406 [l0, l1, l2, l3, l4, l5, l6, l7] L2 (aI x :: St) S = ev c 311 1407 [l0, l1, l2, l3, l4, l5, l6, l7] L2 (aL x.toInt64 :: St) S := ev_go i311_1406 rfl
theorem i311_1407 : insAt 311 1407 = some (.lcmp, 1, (0, 0, 0, 0), 0) := rfl
theorem s311_1407 {c : Nat → List AV → SS → Option Out} {l0 l1 l2 l3 l4 l5 l6 l7 : Option AV} {x y : Int64} {L2 : List (Nat × AV)} {St : List AV} {S : SS} : ev c 311 1407 [l0, l1, l2, l3, l4, l5, l6, l7] L2 (aL y :: aL x :: St) S = ev c 311 1408 [l0, l1, l2, l3, l4, l5, l6, l7] L2 (aI (if x < y then -1 else if x = y then 0 else 1) :: St) S := ev_go i311_1407 rfl
theorem i311_1408 : insAt 311 1408 = some (.ifCond .eq 5, 3, (0, 0, 0, 0), 0) := rfl
theorem s311_1408 {c : Nat → List AV → SS → Option Out} {l0 l1 l2 l3 l4 l5 l6 l7 : Option AV} {x : Int32} {L2 : List (Nat × AV)} {St : List AV} {S : SS} : ev c 311 1408 [l0, l1, l2, l3, l4, l5, l6, l7] L2 (aI x :: St) S = if x = 0 then ev c 311 1413 [l0, l1, l2, l3, l4, l5, l6, l7] L2 St S else ev c 311 1411 [l0, l1, l2, l3, l4, l5, l6, l7] L2 St S := ev_br i311_1408 rfl
theorem i311_1411 : insAt 311 1411 = some (.iconst 0, 1, (0, 0, 0, 0), 0) := rfl
theorem s311_1411 {c : Nat → List AV → SS → Option Out} {l0 l1 l2 l3 l4 l5 l6 l7 : Option AV} {L2 : List (Nat × AV)} {St : List AV} {S : SS} : ev c 311 1411 [l0, l1, l2, l3, l4, l5, l6, l7] L2 St S = ev c 311 1412 [l0, l1, l2, l3, l4, l5, l6, l7] L2 (aI 0 :: St) S := ev_go i311_1411 rfl
theorem i311_1412 : insAt 311 1412 = some (.ireturn, 1, (0, 0, 0, 0), 0) := rfl
theorem s311_1412 {c : Nat → List AV → SS → Option Out} {l0 l1 l2 l3 l4 l5 l6 l7 : Option AV} {x : Int32} {L2 : List (Nat × AV)} {S : SS} : ev c 311 1412 [l0, l1, l2, l3, l4, l5, l6, l7] L2 [aI x] S = if x = 0 ∨ x = 1 then some (.inl (some (aI x)), S) else none := ev_rt i311_1412 rfl
theorem i311_1413 : insAt 311 1413 = some (.goto 1386, 3, (0, 0, 0, 0), 0) := rfl
theorem s311_1413 {c : Nat → List AV → SS → Option Out} {l0 l1 l2 l3 l4 l5 l6 l7 : Option AV} {L2 : List (Nat × AV)} {St : List AV} {S : SS} : ev c 311 1413 [l0, l1, l2, l3, l4, l5, l6, l7] L2 St S = ev c 311 2799 [l0, l1, l2, l3, l4, l5, l6, l7] L2 St S := ev_go i311_1413 rfl
theorem i311_1416 : insAt 311 1416 = some (.aload_n 1, 1, (0, 0, 0, 0), 0) := rfl
theorem s311_1416 {c : Nat → List AV → SS → Option Out} {l0 l2 l3 l4 l5 l6 l7 : Option AV} {o : OId} {L2 : List (Nat × AV)} {St : List AV} {S : SS} : ev c 311 1416 [l0, some (aR o), l2, l3, l4, l5, l6, l7] L2 St S = ev c 311 1417 [l0, some (aR o), l2, l3, l4, l5, l6, l7] L2 (aR o :: St) S := ev_go i311_1416 rfl
theorem i311_1417 : insAt 311 1417 = some (.aload_n 0, 1, (0, 0, 0, 0), 0) := rfl
theorem s311_1417 {c : Nat → List AV → SS → Option Out} {l1 l2 l3 l4 l5 l6 l7 : Option AV} {o : OId} {L2 : List (Nat × AV)} {St : List AV} {S : SS} : ev c 311 1417 [some (aR o), l1, l2, l3, l4, l5, l6, l7] L2 St S = ev c 311 1418 [some (aR o), l1, l2, l3, l4, l5, l6, l7] L2 (aR o :: St) S := ev_go i311_1417 rfl
theorem i311_1418 : insAt 311 1418 = some (.iload 5, 2, (0, 0, 0, 0), 0) := rfl
theorem s311_1418 {c : Nat → List AV → SS → Option Out} {l0 l1 l2 l3 l4 l6 l7 : Option AV} {x : Int32} {L2 : List (Nat × AV)} {St : List AV} {S : SS} : ev c 311 1418 [l0, l1, l2, l3, l4, some (aI x), l6, l7] L2 St S = ev c 311 1420 [l0, l1, l2, l3, l4, some (aI x), l6, l7] L2 (aI x :: St) S := ev_go i311_1418 rfl
theorem i311_1420 : insAt 311 1420 = some (.iconst 1, 1, (0, 0, 0, 0), 0) := rfl
theorem s311_1420 {c : Nat → List AV → SS → Option Out} {l0 l1 l2 l3 l4 l5 l6 l7 : Option AV} {L2 : List (Nat × AV)} {St : List AV} {S : SS} : ev c 311 1420 [l0, l1, l2, l3, l4, l5, l6, l7] L2 St S = ev c 311 1421 [l0, l1, l2, l3, l4, l5, l6, l7] L2 (aI 1 :: St) S := ev_go i311_1420 rfl
theorem i311_1421 : insAt 311 1421 = some (.iadd, 1, (0, 0, 0, 0), 0) := rfl
theorem s311_1421 {c : Nat → List AV → SS → Option Out} {l0 l1 l2 l3 l4 l5 l6 l7 : Option AV} {x y : Int32} {L2 : List (Nat × AV)} {St : List AV} {S : SS} : ev c 311 1421 [l0, l1, l2, l3, l4, l5, l6, l7] L2 (aI y :: aI x :: St) S = ev c 311 1422 [l0, l1, l2, l3, l4, l5, l6, l7] L2 (aI (x + y) :: St) S := ev_go i311_1421 rfl
theorem i311_1422 : insAt 311 1422 = some (.iaload, 1, (0, 0, 0, 0), 0) := rfl
theorem s311_1422 {c : Nat → List AV → SS → Option Out} {l0 l1 l2 l3 l4 l5 l6 l7 : Option AV} {i : Int32} {o : OId} {L2 : List (Nat × AV)} {St : List AV} {S : SS} : ev c 311 1422 [l0, l1, l2, l3, l4, l5, l6, l7] L2 (aI i :: aR o :: St) S = kI o i (ev c 311 1423 [l0, l1, l2, l3, l4, l5, l6, l7] L2 (aI (agI S o i.toNatClampNeg) :: St) S) := ev_iaload i311_1422
theorem i311_1423 : insAt 311 1423 = some (.aload_n 0, 1, (0, 0, 0, 0), 0) := rfl
theorem s311_1423 {c : Nat → List AV → SS → Option Out} {l1 l2 l3 l4 l5 l6 l7 : Option AV} {o : OId} {L2 : List (Nat × AV)} {St : List AV} {S : SS} : ev c 311 1423 [some (aR o), l1, l2, l3, l4, l5, l6, l7] L2 St S = ev c 311 1424 [some (aR o), l1, l2, l3, l4, l5, l6, l7] L2 (aR o :: St) S := ev_go i311_1423 rfl
theorem i311_1424 : insAt 311 1424 = some (.iload 5, 2, (0, 0, 0, 0), 0) := rfl
theorem s311_1424 {c : Nat → List AV → SS → Option Out} {l0 l1 l2 l3 l4 l6 l7 : Option AV} {x : Int32} {L2 : List (Nat × AV)} {St : List AV} {S : SS} : ev c 311 1424 [l0, l1, l2, l3, l4, some (aI x), l6, l7] L2 St S = ev c 311 1426 [l0, l1, l2, l3, l4, some (aI x), l6, l7] L2 (aI x :: St) S := ev_go i311_1424 rfl
theorem i311_1426 : insAt 311 1426 = some (.iconst 2, 1, (0, 0, 0, 0), 0) := rfl
theorem s311_1426 {c : Nat → List AV → SS → Option Out} {l0 l1 l2 l3 l4 l5 l6 l7 : Option AV} {L2 : List (Nat × AV)} {St : List AV} {S : SS} : ev c 311 1426 [l0, l1, l2, l3, l4, l5, l6, l7] L2 St S = ev c 311 1427 [l0, l1, l2, l3, l4, l5, l6, l7] L2 (aI 2 :: St) S := ev_go i311_1426 rfl
theorem i311_1427 : insAt 311 1427 = some (.iadd, 1, (0, 0, 0, 0), 0) := rfl
theorem s311_1427 {c : Nat → List AV → SS → Option Out} {l0 l1 l2 l3 l4 l5 l6 l7 : Option AV} {x y : Int32} {L2 : List (Nat × AV)} {St : List AV} {S : SS} : ev c 311 1427 [l0, l1, l2, l3, l4, l5, l6, l7] L2 (aI y :: aI x :: St) S = ev c 311 1428 [l0, l1, l2, l3, l4, l5, l6, l7] L2 (aI (x + y) :: St) S := ev_go i311_1427 rfl
theorem i311_1428 : insAt 311 1428 = some (.iaload, 1, (0, 0, 0, 0), 0) := rfl
theorem s311_1428 {c : Nat → List AV → SS → Option Out} {l0 l1 l2 l3 l4 l5 l6 l7 : Option AV} {i : Int32} {o : OId} {L2 : List (Nat × AV)} {St : List AV} {S : SS} : ev c 311 1428 [l0, l1, l2, l3, l4, l5, l6, l7] L2 (aI i :: aR o :: St) S = kI o i (ev c 311 1429 [l0, l1, l2, l3, l4, l5, l6, l7] L2 (aI (agI S o i.toNatClampNeg) :: St) S) := ev_iaload i311_1428
theorem i311_1429 : insAt 311 1429 = some (.aload_n 3, 1, (0, 0, 0, 0), 0) := rfl
theorem s311_1429 {c : Nat → List AV → SS → Option Out} {l0 l1 l2 l4 l5 l6 l7 : Option AV} {o : OId} {L2 : List (Nat × AV)} {St : List AV} {S : SS} : ev c 311 1429 [l0, l1, l2, some (aR o), l4, l5, l6, l7] L2 St S = ev c 311 1430 [l0, l1, l2, some (aR o), l4, l5, l6, l7] L2 (aR o :: St) S := ev_go i311_1429 rfl
theorem i311_1430 : insAt 311 1430 = some (.invokestatic 235, 3, (122, 4, 0, 0), 490) := rfl
theorem s311_1430 {c : Nat → List AV → SS → Option Out} {l0 l1 l2 l3 l4 l5 l6 l7 : Option AV} {a0 : OId} {a1 : Int32} {a2 : Int32} {a3 : OId} {L2 : List (Nat × AV)} {S : SS} : ev c 311 1430 [l0, l1, l2, l3, l4, l5, l6, l7] L2 [aR a3, aI a2, aI a1, aR a0] S = ck (c 122 [aR a0, aI a1, aI a2, aR a3] S) (fun v S' => ev c 311 1433 [l0, l1, l2, l3, l4, l5, l6, l7] L2 (v.toList ++ []) S') := ev_call i311_1430 rfl
theorem i311_1433 : insAt 311 1433 = some (.istore 6, 2, (0, 0, 0, 0), 0) := rfl
theorem s311_1433 {c : Nat → List AV → SS → Option Out} {l0 l1 l2 l3 l4 l5 l6 l7 : Option AV} {x : Int32} {L2 : List (Nat × AV)} {St : List AV} {S : SS} : ev c 311 1433 [l0, l1, l2, l3, l4, l5, l6, l7] L2 (aI x :: St) S = ev c 311 1435 [l0, l1, l2, l3, l4, l5, some (aI x), l7] (kil L2 6) St S := ev_go i311_1433 rfl
theorem i311_1435 : insAt 311 1435 = some (.aload_n 2, 1, (0, 0, 0, 0), 0) := rfl
theorem s311_1435 {c : Nat → List AV → SS → Option Out} {l0 l1 l3 l4 l5 l6 l7 : Option AV} {o : OId} {L2 : List (Nat × AV)} {St : List AV} {S : SS} : ev c 311 1435 [l0, l1, some (aR o), l3, l4, l5, l6, l7] L2 St S = ev c 311 1436 [l0, l1, some (aR o), l3, l4, l5, l6, l7] L2 (aR o :: St) S := ev_go i311_1435 rfl
theorem i311_1436 : insAt 311 1436 = some (.aload_n 0, 1, (0, 0, 0, 0), 0) := rfl
theorem s311_1436 {c : Nat → List AV → SS → Option Out} {l1 l2 l3 l4 l5 l6 l7 : Option AV} {o : OId} {L2 : List (Nat × AV)} {St : List AV} {S : SS} : ev c 311 1436 [some (aR o), l1, l2, l3, l4, l5, l6, l7] L2 St S = ev c 311 1437 [some (aR o), l1, l2, l3, l4, l5, l6, l7] L2 (aR o :: St) S := ev_go i311_1436 rfl
theorem i311_1437 : insAt 311 1437 = some (.iload 5, 2, (0, 0, 0, 0), 0) := rfl
theorem s311_1437 {c : Nat → List AV → SS → Option Out} {l0 l1 l2 l3 l4 l6 l7 : Option AV} {x : Int32} {L2 : List (Nat × AV)} {St : List AV} {S : SS} : ev c 311 1437 [l0, l1, l2, l3, l4, some (aI x), l6, l7] L2 St S = ev c 311 1439 [l0, l1, l2, l3, l4, some (aI x), l6, l7] L2 (aI x :: St) S := ev_go i311_1437 rfl
theorem i311_1439 : insAt 311 1439 = some (.iconst 1, 1, (0, 0, 0, 0), 0) := rfl
theorem s311_1439 {c : Nat → List AV → SS → Option Out} {l0 l1 l2 l3 l4 l5 l6 l7 : Option AV} {L2 : List (Nat × AV)} {St : List AV} {S : SS} : ev c 311 1439 [l0, l1, l2, l3, l4, l5, l6, l7] L2 St S = ev c 311 1440 [l0, l1, l2, l3, l4, l5, l6, l7] L2 (aI 1 :: St) S := ev_go i311_1439 rfl
theorem i311_1440 : insAt 311 1440 = some (.iadd, 1, (0, 0, 0, 0), 0) := rfl
theorem s311_1440 {c : Nat → List AV → SS → Option Out} {l0 l1 l2 l3 l4 l5 l6 l7 : Option AV} {x y : Int32} {L2 : List (Nat × AV)} {St : List AV} {S : SS} : ev c 311 1440 [l0, l1, l2, l3, l4, l5, l6, l7] L2 (aI y :: aI x :: St) S = ev c 311 1441 [l0, l1, l2, l3, l4, l5, l6, l7] L2 (aI (x + y) :: St) S := ev_go i311_1440 rfl
theorem i311_1441 : insAt 311 1441 = some (.iaload, 1, (0, 0, 0, 0), 0) := rfl
theorem s311_1441 {c : Nat → List AV → SS → Option Out} {l0 l1 l2 l3 l4 l5 l6 l7 : Option AV} {i : Int32} {o : OId} {L2 : List (Nat × AV)} {St : List AV} {S : SS} : ev c 311 1441 [l0, l1, l2, l3, l4, l5, l6, l7] L2 (aI i :: aR o :: St) S = kI o i (ev c 311 1442 [l0, l1, l2, l3, l4, l5, l6, l7] L2 (aI (agI S o i.toNatClampNeg) :: St) S) := ev_iaload i311_1441
theorem i311_1442 : insAt 311 1442 = some (.aload_n 0, 1, (0, 0, 0, 0), 0) := rfl
theorem s311_1442 {c : Nat → List AV → SS → Option Out} {l1 l2 l3 l4 l5 l6 l7 : Option AV} {o : OId} {L2 : List (Nat × AV)} {St : List AV} {S : SS} : ev c 311 1442 [some (aR o), l1, l2, l3, l4, l5, l6, l7] L2 St S = ev c 311 1443 [some (aR o), l1, l2, l3, l4, l5, l6, l7] L2 (aR o :: St) S := ev_go i311_1442 rfl
theorem i311_1443 : insAt 311 1443 = some (.iload 5, 2, (0, 0, 0, 0), 0) := rfl
theorem s311_1443 {c : Nat → List AV → SS → Option Out} {l0 l1 l2 l3 l4 l6 l7 : Option AV} {x : Int32} {L2 : List (Nat × AV)} {St : List AV} {S : SS} : ev c 311 1443 [l0, l1, l2, l3, l4, some (aI x), l6, l7] L2 St S = ev c 311 1445 [l0, l1, l2, l3, l4, some (aI x), l6, l7] L2 (aI x :: St) S := ev_go i311_1443 rfl
theorem i311_1445 : insAt 311 1445 = some (.iconst 2, 1, (0, 0, 0, 0), 0) := rfl
theorem s311_1445 {c : Nat → List AV → SS → Option Out} {l0 l1 l2 l3 l4 l5 l6 l7 : Option AV} {L2 : List (Nat × AV)} {St : List AV} {S : SS} : ev c 311 1445 [l0, l1, l2, l3, l4, l5, l6, l7] L2 St S = ev c 311 1446 [l0, l1, l2, l3, l4, l5, l6, l7] L2 (aI 2 :: St) S := ev_go i311_1445 rfl
theorem i311_1446 : insAt 311 1446 = some (.iadd, 1, (0, 0, 0, 0), 0) := rfl
theorem s311_1446 {c : Nat → List AV → SS → Option Out} {l0 l1 l2 l3 l4 l5 l6 l7 : Option AV} {x y : Int32} {L2 : List (Nat × AV)} {St : List AV} {S : SS} : ev c 311 1446 [l0, l1, l2, l3, l4, l5, l6, l7] L2 (aI y :: aI x :: St) S = ev c 311 1447 [l0, l1, l2, l3, l4, l5, l6, l7] L2 (aI (x + y) :: St) S := ev_go i311_1446 rfl
theorem i311_1447 : insAt 311 1447 = some (.iaload, 1, (0, 0, 0, 0), 0) := rfl
theorem s311_1447 {c : Nat → List AV → SS → Option Out} {l0 l1 l2 l3 l4 l5 l6 l7 : Option AV} {i : Int32} {o : OId} {L2 : List (Nat × AV)} {St : List AV} {S : SS} : ev c 311 1447 [l0, l1, l2, l3, l4, l5, l6, l7] L2 (aI i :: aR o :: St) S = kI o i (ev c 311 1448 [l0, l1, l2, l3, l4, l5, l6, l7] L2 (aI (agI S o i.toNatClampNeg) :: St) S) := ev_iaload i311_1447
theorem i311_1448 : insAt 311 1448 = some (.invokevirtual 237, 3, (277, 2, 2, 12), 491) := rfl
theorem s311_1448 {c : Nat → List AV → SS → Option Out} {l0 l1 l2 l3 l4 l5 l6 l7 : Option AV} {a0 : Int32} {a1 : Int32} {j t : Nat} {L2 : List (Nat × AV)} {S : SS} : ev c 311 1448 [l0, l1, l2, l3, l4, l5, l6, l7] L2 [aI a1, aI a0, aR (12, j, t)] S = ck (c 277 [aR (12, j, t), aI a0, aI a1] S) (fun v S' => ev c 311 1451 [l0, l1, l2, l3, l4, l5, l6, l7] L2 (v.toList ++ []) S') := ev_call i311_1448 rfl
theorem i311_1451 : insAt 311 1451 = some (.istore 7, 2, (0, 0, 0, 0), 0) := rfl
theorem s311_1451 {c : Nat → List AV → SS → Option Out} {l0 l1 l2 l3 l4 l5 l6 l7 : Option AV} {x : Int32} {L2 : List (Nat × AV)} {St : List AV} {S : SS} : ev c 311 1451 [l0, l1, l2, l3, l4, l5, l6, l7] L2 (aI x :: St) S = ev c 311 1453 [l0, l1, l2, l3, l4, l5, l6, some (aI x)] (kil L2 7) St S := ev_go i311_1451 rfl
theorem i311_1453 : insAt 311 1453 = some (.aload_n 2, 1, (0, 0, 0, 0), 0) := rfl
theorem s311_1453 {c : Nat → List AV → SS → Option Out} {l0 l1 l3 l4 l5 l6 l7 : Option AV} {o : OId} {L2 : List (Nat × AV)} {St : List AV} {S : SS} : ev c 311 1453 [l0, l1, some (aR o), l3, l4, l5, l6, l7] L2 St S = ev c 311 1454 [l0, l1, some (aR o), l3, l4, l5, l6, l7] L2 (aR o :: St) S := ev_go i311_1453 rfl
theorem i311_1454 : insAt 311 1454 = some (.invokevirtual 149, 3, (215, 0, 2, 12), 441) := rfl
theorem s311_1454 {c : Nat → List AV → SS → Option Out} {l0 l1 l2 l3 l4 l5 l6 l7 : Option AV} {j t : Nat} {L2 : List (Nat × AV)} {S : SS} : ev c 311 1454 [l0, l1, l2, l3, l4, l5, l6, l7] L2 [aR (12, j, t)] S = ck (c 215 [aR (12, j, t)] S) (fun v S' => ev c 311 1457 [l0, l1, l2, l3, l4, l5, l6, l7] L2 (v.toList ++ []) S') := ev_call i311_1454 rfl
theorem i311_1457 : insAt 311 1457 = some (.iload 6, 2, (0, 0, 0, 0), 0) := rfl
theorem s311_1457 {c : Nat → List AV → SS → Option Out} {l0 l1 l2 l3 l4 l5 l7 : Option AV} {x : Int32} {L2 : List (Nat × AV)} {St : List AV} {S : SS} : ev c 311 1457 [l0, l1, l2, l3, l4, l5, some (aI x), l7] L2 St S = ev c 311 1459 [l0, l1, l2, l3, l4, l5, some (aI x), l7] L2 (aI x :: St) S := ev_go i311_1457 rfl
theorem i311_1459 : insAt 311 1459 = some (.if_icmp .eq 5, 3, (0, 0, 0, 0), 0) := rfl
theorem s311_1459 {c : Nat → List AV → SS → Option Out} {l0 l1 l2 l3 l4 l5 l6 l7 : Option AV} {x y : Int32} {L2 : List (Nat × AV)} {St : List AV} {S : SS} : ev c 311 1459 [l0, l1, l2, l3, l4, l5, l6, l7] L2 (aI y :: aI x :: St) S = if x = y then ev c 311 1464 [l0, l1, l2, l3, l4, l5, l6, l7] L2 St S else ev c 311 1462 [l0, l1, l2, l3, l4, l5, l6, l7] L2 St S := ev_br i311_1459 rfl
theorem i311_1462 : insAt 311 1462 = some (.iconst 0, 1, (0, 0, 0, 0), 0) := rfl
theorem s311_1462 {c : Nat → List AV → SS → Option Out} {l0 l1 l2 l3 l4 l5 l6 l7 : Option AV} {L2 : List (Nat × AV)} {St : List AV} {S : SS} : ev c 311 1462 [l0, l1, l2, l3, l4, l5, l6, l7] L2 St S = ev c 311 1463 [l0, l1, l2, l3, l4, l5, l6, l7] L2 (aI 0 :: St) S := ev_go i311_1462 rfl
theorem i311_1463 : insAt 311 1463 = some (.ireturn, 1, (0, 0, 0, 0), 0) := rfl
theorem s311_1463 {c : Nat → List AV → SS → Option Out} {l0 l1 l2 l3 l4 l5 l6 l7 : Option AV} {x : Int32} {L2 : List (Nat × AV)} {S : SS} : ev c 311 1463 [l0, l1, l2, l3, l4, l5, l6, l7] L2 [aI x] S = if x = 0 ∨ x = 1 then some (.inl (some (aI x)), S) else none := ev_rt i311_1463 rfl
theorem i311_1464 : insAt 311 1464 = some (.iload 6, 2, (0, 0, 0, 0), 0) := rfl
theorem s311_1464 {c : Nat → List AV → SS → Option Out} {l0 l1 l2 l3 l4 l5 l7 : Option AV} {x : Int32} {L2 : List (Nat × AV)} {St : List AV} {S : SS} : ev c 311 1464 [l0, l1, l2, l3, l4, l5, some (aI x), l7] L2 St S = ev c 311 1466 [l0, l1, l2, l3, l4, l5, some (aI x), l7] L2 (aI x :: St) S := ev_go i311_1464 rfl
theorem i311_1466 : insAt 311 1466 = some (.ifCond .ne 15, 3, (0, 0, 0, 0), 0) := rfl
theorem s311_1466 {c : Nat → List AV → SS → Option Out} {l0 l1 l2 l3 l4 l5 l6 l7 : Option AV} {x : Int32} {L2 : List (Nat × AV)} {St : List AV} {S : SS} : ev c 311 1466 [l0, l1, l2, l3, l4, l5, l6, l7] L2 (aI x :: St) S = if x = 0 then ev c 311 1469 [l0, l1, l2, l3, l4, l5, l6, l7] L2 St S else ev c 311 1481 [l0, l1, l2, l3, l4, l5, l6, l7] L2 St S := (ev_br i311_1466 rfl).trans (ite_not _ _ _)
theorem i311_1469 : insAt 311 1469 = some (.aload_n 3, 1, (0, 0, 0, 0), 0) := rfl
theorem s311_1469 {c : Nat → List AV → SS → Option Out} {l0 l1 l2 l4 l5 l6 l7 : Option AV} {o : OId} {L2 : List (Nat × AV)} {St : List AV} {S : SS} : ev c 311 1469 [l0, l1, l2, some (aR o), l4, l5, l6, l7] L2 St S = ev c 311 1470 [l0, l1, l2, some (aR o), l4, l5, l6, l7] L2 (aR o :: St) S := ev_go i311_1469 rfl
theorem i311_1470 : insAt 311 1470 = some (.iconst 0, 1, (0, 0, 0, 0), 0) := rfl
theorem s311_1470 {c : Nat → List AV → SS → Option Out} {l0 l1 l2 l3 l4 l5 l6 l7 : Option AV} {L2 : List (Nat × AV)} {St : List AV} {S : SS} : ev c 311 1470 [l0, l1, l2, l3, l4, l5, l6, l7] L2 St S = ev c 311 1471 [l0, l1, l2, l3, l4, l5, l6, l7] L2 (aI 0 :: St) S := ev_go i311_1470 rfl
theorem i311_1471 : insAt 311 1471 = some (.laload, 1, (0, 0, 0, 0), 0) := rfl
theorem s311_1471 {c : Nat → List AV → SS → Option Out} {l0 l1 l2 l3 l4 l5 l6 l7 : Option AV} {i : Int32} {o : OId} {L2 : List (Nat × AV)} {St : List AV} {S : SS} : ev c 311 1471 [l0, l1, l2, l3, l4, l5, l6, l7] L2 (aI i :: aR o :: St) S = kJ o i (ev c 311 1472 [l0, l1, l2, l3, l4, l5, l6, l7] L2 (aL (toL (S.2.1 o i.toNatClampNeg)) :: St) S) := ev_laload i311_1471
theorem i311_1472 : insAt 311 1472 = some (.iload 7, 2, (0, 0, 0, 0), 0) := rfl
theorem s311_1472 {c : Nat → List AV → SS → Option Out} {l0 l1 l2 l3 l4 l5 l6 : Option AV} {x : Int32} {L2 : List (Nat × AV)} {St : List AV} {S : SS} : ev c 311 1472 [l0, l1, l2, l3, l4, l5, l6, some (aI x)] L2 St S = ev c 311 1474 [l0, l1, l2, l3, l4, l5, l6, some (aI x)] L2 (aI x :: St) S := ev_go i311_1472 rfl
theorem i311_1474 : insAt 311 1474 = some (.i2l, 1, (0, 0, 0, 0), 0) := rfl
theorem s311_1474 {c : Nat → List AV → SS → Option Out} {l0 l1 l2 l3 l4 l5 l6 l7 : Option AV} {x : Int32} {L2 : List (Nat × AV)} {St : List AV} {S : SS} : ev c 311 1474 [l0, l1, l2, l3, l4, l5, l6, l7] L2 (aI x :: St) S = ev c 311 1475 [l0, l1, l2, l3, l4, l5, l6, l7] L2 (aL x.toInt64 :: St) S := ev_go i311_1474 rfl
theorem i311_1475 : insAt 311 1475 = some (.lcmp, 1, (0, 0, 0, 0), 0) := rfl
theorem s311_1475 {c : Nat → List AV → SS → Option Out} {l0 l1 l2 l3 l4 l5 l6 l7 : Option AV} {x y : Int64} {L2 : List (Nat × AV)} {St : List AV} {S : SS} : ev c 311 1475 [l0, l1, l2, l3, l4, l5, l6, l7] L2 (aL y :: aL x :: St) S = ev c 311 1476 [l0, l1, l2, l3, l4, l5, l6, l7] L2 (aI (if x < y then -1 else if x = y then 0 else 1) :: St) S := ev_go i311_1475 rfl
theorem i311_1476 : insAt 311 1476 = some (.ifCond .eq 5, 3, (0, 0, 0, 0), 0) := rfl
theorem s311_1476 {c : Nat → List AV → SS → Option Out} {l0 l1 l2 l3 l4 l5 l6 l7 : Option AV} {x : Int32} {L2 : List (Nat × AV)} {St : List AV} {S : SS} : ev c 311 1476 [l0, l1, l2, l3, l4, l5, l6, l7] L2 (aI x :: St) S = if x = 0 then ev c 311 1481 [l0, l1, l2, l3, l4, l5, l6, l7] L2 St S else ev c 311 1479 [l0, l1, l2, l3, l4, l5, l6, l7] L2 St S := ev_br i311_1476 rfl
theorem i311_1479 : insAt 311 1479 = some (.iconst 0, 1, (0, 0, 0, 0), 0) := rfl
theorem s311_1479 {c : Nat → List AV → SS → Option Out} {l0 l1 l2 l3 l4 l5 l6 l7 : Option AV} {L2 : List (Nat × AV)} {St : List AV} {S : SS} : ev c 311 1479 [l0, l1, l2, l3, l4, l5, l6, l7] L2 St S = ev c 311 1480 [l0, l1, l2, l3, l4, l5, l6, l7] L2 (aI 0 :: St) S := ev_go i311_1479 rfl
theorem i311_1480 : insAt 311 1480 = some (.ireturn, 1, (0, 0, 0, 0), 0) := rfl
theorem s311_1480 {c : Nat → List AV → SS → Option Out} {l0 l1 l2 l3 l4 l5 l6 l7 : Option AV} {x : Int32} {L2 : List (Nat × AV)} {S : SS} : ev c 311 1480 [l0, l1, l2, l3, l4, l5, l6, l7] L2 [aI x] S = if x = 0 ∨ x = 1 then some (.inl (some (aI x)), S) else none := ev_rt i311_1480 rfl
theorem i311_1481 : insAt 311 1481 = some (.goto 1318, 3, (0, 0, 0, 0), 0) := rfl
theorem s311_1481 {c : Nat → List AV → SS → Option Out} {l0 l1 l2 l3 l4 l5 l6 l7 : Option AV} {L2 : List (Nat × AV)} {St : List AV} {S : SS} : ev c 311 1481 [l0, l1, l2, l3, l4, l5, l6, l7] L2 St S = ev c 311 2799 [l0, l1, l2, l3, l4, l5, l6, l7] L2 St S := ev_go i311_1481 rfl
theorem i311_1484 : insAt 311 1484 = some (.aload_n 1, 1, (0, 0, 0, 0), 0) := rfl
theorem s311_1484 {c : Nat → List AV → SS → Option Out} {l0 l2 l3 l4 l5 l6 l7 : Option AV} {o : OId} {L2 : List (Nat × AV)} {St : List AV} {S : SS} : ev c 311 1484 [l0, some (aR o), l2, l3, l4, l5, l6, l7] L2 St S = ev c 311 1485 [l0, some (aR o), l2, l3, l4, l5, l6, l7] L2 (aR o :: St) S := ev_go i311_1484 rfl
theorem i311_1485 : insAt 311 1485 = some (.aload_n 0, 1, (0, 0, 0, 0), 0) := rfl
theorem s311_1485 {c : Nat → List AV → SS → Option Out} {l1 l2 l3 l4 l5 l6 l7 : Option AV} {o : OId} {L2 : List (Nat × AV)} {St : List AV} {S : SS} : ev c 311 1485 [some (aR o), l1, l2, l3, l4, l5, l6, l7] L2 St S = ev c 311 1486 [some (aR o), l1, l2, l3, l4, l5, l6, l7] L2 (aR o :: St) S := ev_go i311_1485 rfl
theorem i311_1486 : insAt 311 1486 = some (.iload 5, 2, (0, 0, 0, 0), 0) := rfl
theorem s311_1486 {c : Nat → List AV → SS → Option Out} {l0 l1 l2 l3 l4 l6 l7 : Option AV} {x : Int32} {L2 : List (Nat × AV)} {St : List AV} {S : SS} : ev c 311 1486 [l0, l1, l2, l3, l4, some (aI x), l6, l7] L2 St S = ev c 311 1488 [l0, l1, l2, l3, l4, some (aI x), l6, l7] L2 (aI x :: St) S := ev_go i311_1486 rfl
theorem i311_1488 : insAt 311 1488 = some (.iconst 1, 1, (0, 0, 0, 0), 0) := rfl
theorem s311_1488 {c : Nat → List AV → SS → Option Out} {l0 l1 l2 l3 l4 l5 l6 l7 : Option AV} {L2 : List (Nat × AV)} {St : List AV} {S : SS} : ev c 311 1488 [l0, l1, l2, l3, l4, l5, l6, l7] L2 St S = ev c 311 1489 [l0, l1, l2, l3, l4, l5, l6, l7] L2 (aI 1 :: St) S := ev_go i311_1488 rfl
theorem i311_1489 : insAt 311 1489 = some (.iadd, 1, (0, 0, 0, 0), 0) := rfl
theorem s311_1489 {c : Nat → List AV → SS → Option Out} {l0 l1 l2 l3 l4 l5 l6 l7 : Option AV} {x y : Int32} {L2 : List (Nat × AV)} {St : List AV} {S : SS} : ev c 311 1489 [l0, l1, l2, l3, l4, l5, l6, l7] L2 (aI y :: aI x :: St) S = ev c 311 1490 [l0, l1, l2, l3, l4, l5, l6, l7] L2 (aI (x + y) :: St) S := ev_go i311_1489 rfl
theorem i311_1490 : insAt 311 1490 = some (.iaload, 1, (0, 0, 0, 0), 0) := rfl
theorem s311_1490 {c : Nat → List AV → SS → Option Out} {l0 l1 l2 l3 l4 l5 l6 l7 : Option AV} {i : Int32} {o : OId} {L2 : List (Nat × AV)} {St : List AV} {S : SS} : ev c 311 1490 [l0, l1, l2, l3, l4, l5, l6, l7] L2 (aI i :: aR o :: St) S = kI o i (ev c 311 1491 [l0, l1, l2, l3, l4, l5, l6, l7] L2 (aI (agI S o i.toNatClampNeg) :: St) S) := ev_iaload i311_1490
theorem i311_1491 : insAt 311 1491 = some (.aload_n 0, 1, (0, 0, 0, 0), 0) := rfl
theorem s311_1491 {c : Nat → List AV → SS → Option Out} {l1 l2 l3 l4 l5 l6 l7 : Option AV} {o : OId} {L2 : List (Nat × AV)} {St : List AV} {S : SS} : ev c 311 1491 [some (aR o), l1, l2, l3, l4, l5, l6, l7] L2 St S = ev c 311 1492 [some (aR o), l1, l2, l3, l4, l5, l6, l7] L2 (aR o :: St) S := ev_go i311_1491 rfl
theorem i311_1492 : insAt 311 1492 = some (.iload 5, 2, (0, 0, 0, 0), 0) := rfl
theorem s311_1492 {c : Nat → List AV → SS → Option Out} {l0 l1 l2 l3 l4 l6 l7 : Option AV} {x : Int32} {L2 : List (Nat × AV)} {St : List AV} {S : SS} : ev c 311 1492 [l0, l1, l2, l3, l4, some (aI x), l6, l7] L2 St S = ev c 311 1494 [l0, l1, l2, l3, l4, some (aI x), l6, l7] L2 (aI x :: St) S := ev_go i311_1492 rfl
theorem i311_1494 : insAt 311 1494 = some (.iconst 2, 1, (0, 0, 0, 0), 0) := rfl
theorem s311_1494 {c : Nat → List AV → SS → Option Out} {l0 l1 l2 l3 l4 l5 l6 l7 : Option AV} {L2 : List (Nat × AV)} {St : List AV} {S : SS} : ev c 311 1494 [l0, l1, l2, l3, l4, l5, l6, l7] L2 St S = ev c 311 1495 [l0, l1, l2, l3, l4, l5, l6, l7] L2 (aI 2 :: St) S := ev_go i311_1494 rfl
theorem i311_1495 : insAt 311 1495 = some (.iadd, 1, (0, 0, 0, 0), 0) := rfl
theorem s311_1495 {c : Nat → List AV → SS → Option Out} {l0 l1 l2 l3 l4 l5 l6 l7 : Option AV} {x y : Int32} {L2 : List (Nat × AV)} {St : List AV} {S : SS} : ev c 311 1495 [l0, l1, l2, l3, l4, l5, l6, l7] L2 (aI y :: aI x :: St) S = ev c 311 1496 [l0, l1, l2, l3, l4, l5, l6, l7] L2 (aI (x + y) :: St) S := ev_go i311_1495 rfl
theorem i311_1496 : insAt 311 1496 = some (.iaload, 1, (0, 0, 0, 0), 0) := rfl
theorem s311_1496 {c : Nat → List AV → SS → Option Out} {l0 l1 l2 l3 l4 l5 l6 l7 : Option AV} {i : Int32} {o : OId} {L2 : List (Nat × AV)} {St : List AV} {S : SS} : ev c 311 1496 [l0, l1, l2, l3, l4, l5, l6, l7] L2 (aI i :: aR o :: St) S = kI o i (ev c 311 1497 [l0, l1, l2, l3, l4, l5, l6, l7] L2 (aI (agI S o i.toNatClampNeg) :: St) S) := ev_iaload i311_1496
theorem i311_1497 : insAt 311 1497 = some (.aload_n 3, 1, (0, 0, 0, 0), 0) := rfl
theorem s311_1497 {c : Nat → List AV → SS → Option Out} {l0 l1 l2 l4 l5 l6 l7 : Option AV} {o : OId} {L2 : List (Nat × AV)} {St : List AV} {S : SS} : ev c 311 1497 [l0, l1, l2, some (aR o), l4, l5, l6, l7] L2 St S = ev c 311 1498 [l0, l1, l2, some (aR o), l4, l5, l6, l7] L2 (aR o :: St) S := ev_go i311_1497 rfl
theorem i311_1498 : insAt 311 1498 = some (.invokestatic 238, 3, (124, 4, 0, 0), 492) := rfl
theorem s311_1498 {c : Nat → List AV → SS → Option Out} {l0 l1 l2 l3 l4 l5 l6 l7 : Option AV} {a0 : OId} {a1 : Int32} {a2 : Int32} {a3 : OId} {L2 : List (Nat × AV)} {S : SS} : ev c 311 1498 [l0, l1, l2, l3, l4, l5, l6, l7] L2 [aR a3, aI a2, aI a1, aR a0] S = ck (c 124 [aR a0, aI a1, aI a2, aR a3] S) (fun v S' => ev c 311 1501 [l0, l1, l2, l3, l4, l5, l6, l7] L2 (v.toList ++ []) S') := ev_call i311_1498 rfl
theorem i311_1501 : insAt 311 1501 = some (.istore 6, 2, (0, 0, 0, 0), 0) := rfl
theorem s311_1501 {c : Nat → List AV → SS → Option Out} {l0 l1 l2 l3 l4 l5 l6 l7 : Option AV} {x : Int32} {L2 : List (Nat × AV)} {St : List AV} {S : SS} : ev c 311 1501 [l0, l1, l2, l3, l4, l5, l6, l7] L2 (aI x :: St) S = ev c 311 1503 [l0, l1, l2, l3, l4, l5, some (aI x), l7] (kil L2 6) St S := ev_go i311_1501 rfl
theorem i311_1503 : insAt 311 1503 = some (.aload_n 2, 1, (0, 0, 0, 0), 0) := rfl
theorem s311_1503 {c : Nat → List AV → SS → Option Out} {l0 l1 l3 l4 l5 l6 l7 : Option AV} {o : OId} {L2 : List (Nat × AV)} {St : List AV} {S : SS} : ev c 311 1503 [l0, l1, some (aR o), l3, l4, l5, l6, l7] L2 St S = ev c 311 1504 [l0, l1, some (aR o), l3, l4, l5, l6, l7] L2 (aR o :: St) S := ev_go i311_1503 rfl
theorem i311_1504 : insAt 311 1504 = some (.aload_n 0, 1, (0, 0, 0, 0), 0) := rfl
theorem s311_1504 {c : Nat → List AV → SS → Option Out} {l1 l2 l3 l4 l5 l6 l7 : Option AV} {o : OId} {L2 : List (Nat × AV)} {St : List AV} {S : SS} : ev c 311 1504 [some (aR o), l1, l2, l3, l4, l5, l6, l7] L2 St S = ev c 311 1505 [some (aR o), l1, l2, l3, l4, l5, l6, l7] L2 (aR o :: St) S := ev_go i311_1504 rfl
theorem i311_1505 : insAt 311 1505 = some (.iload 5, 2, (0, 0, 0, 0), 0) := rfl
theorem s311_1505 {c : Nat → List AV → SS → Option Out} {l0 l1 l2 l3 l4 l6 l7 : Option AV} {x : Int32} {L2 : List (Nat × AV)} {St : List AV} {S : SS} : ev c 311 1505 [l0, l1, l2, l3, l4, some (aI x), l6, l7] L2 St S = ev c 311 1507 [l0, l1, l2, l3, l4, some (aI x), l6, l7] L2 (aI x :: St) S := ev_go i311_1505 rfl
theorem i311_1507 : insAt 311 1507 = some (.iconst 1, 1, (0, 0, 0, 0), 0) := rfl
theorem s311_1507 {c : Nat → List AV → SS → Option Out} {l0 l1 l2 l3 l4 l5 l6 l7 : Option AV} {L2 : List (Nat × AV)} {St : List AV} {S : SS} : ev c 311 1507 [l0, l1, l2, l3, l4, l5, l6, l7] L2 St S = ev c 311 1508 [l0, l1, l2, l3, l4, l5, l6, l7] L2 (aI 1 :: St) S := ev_go i311_1507 rfl
theorem i311_1508 : insAt 311 1508 = some (.iadd, 1, (0, 0, 0, 0), 0) := rfl
theorem s311_1508 {c : Nat → List AV → SS → Option Out} {l0 l1 l2 l3 l4 l5 l6 l7 : Option AV} {x y : Int32} {L2 : List (Nat × AV)} {St : List AV} {S : SS} : ev c 311 1508 [l0, l1, l2, l3, l4, l5, l6, l7] L2 (aI y :: aI x :: St) S = ev c 311 1509 [l0, l1, l2, l3, l4, l5, l6, l7] L2 (aI (x + y) :: St) S := ev_go i311_1508 rfl
theorem i311_1509 : insAt 311 1509 = some (.iaload, 1, (0, 0, 0, 0), 0) := rfl
theorem s311_1509 {c : Nat → List AV → SS → Option Out} {l0 l1 l2 l3 l4 l5 l6 l7 : Option AV} {i : Int32} {o : OId} {L2 : List (Nat × AV)} {St : List AV} {S : SS} : ev c 311 1509 [l0, l1, l2, l3, l4, l5, l6, l7] L2 (aI i :: aR o :: St) S = kI o i (ev c 311 1510 [l0, l1, l2, l3, l4, l5, l6, l7] L2 (aI (agI S o i.toNatClampNeg) :: St) S) := ev_iaload i311_1509
theorem i311_1510 : insAt 311 1510 = some (.aload_n 0, 1, (0, 0, 0, 0), 0) := rfl
theorem s311_1510 {c : Nat → List AV → SS → Option Out} {l1 l2 l3 l4 l5 l6 l7 : Option AV} {o : OId} {L2 : List (Nat × AV)} {St : List AV} {S : SS} : ev c 311 1510 [some (aR o), l1, l2, l3, l4, l5, l6, l7] L2 St S = ev c 311 1511 [some (aR o), l1, l2, l3, l4, l5, l6, l7] L2 (aR o :: St) S := ev_go i311_1510 rfl
theorem i311_1511 : insAt 311 1511 = some (.iload 5, 2, (0, 0, 0, 0), 0) := rfl
theorem s311_1511 {c : Nat → List AV → SS → Option Out} {l0 l1 l2 l3 l4 l6 l7 : Option AV} {x : Int32} {L2 : List (Nat × AV)} {St : List AV} {S : SS} : ev c 311 1511 [l0, l1, l2, l3, l4, some (aI x), l6, l7] L2 St S = ev c 311 1513 [l0, l1, l2, l3, l4, some (aI x), l6, l7] L2 (aI x :: St) S := ev_go i311_1511 rfl
theorem i311_1513 : insAt 311 1513 = some (.iconst 2, 1, (0, 0, 0, 0), 0) := rfl
theorem s311_1513 {c : Nat → List AV → SS → Option Out} {l0 l1 l2 l3 l4 l5 l6 l7 : Option AV} {L2 : List (Nat × AV)} {St : List AV} {S : SS} : ev c 311 1513 [l0, l1, l2, l3, l4, l5, l6, l7] L2 St S = ev c 311 1514 [l0, l1, l2, l3, l4, l5, l6, l7] L2 (aI 2 :: St) S := ev_go i311_1513 rfl
theorem i311_1514 : insAt 311 1514 = some (.iadd, 1, (0, 0, 0, 0), 0) := rfl
theorem s311_1514 {c : Nat → List AV → SS → Option Out} {l0 l1 l2 l3 l4 l5 l6 l7 : Option AV} {x y : Int32} {L2 : List (Nat × AV)} {St : List AV} {S : SS} : ev c 311 1514 [l0, l1, l2, l3, l4, l5, l6, l7] L2 (aI y :: aI x :: St) S = ev c 311 1515 [l0, l1, l2, l3, l4, l5, l6, l7] L2 (aI (x + y) :: St) S := ev_go i311_1514 rfl
theorem i311_1515 : insAt 311 1515 = some (.iaload, 1, (0, 0, 0, 0), 0) := rfl
theorem s311_1515 {c : Nat → List AV → SS → Option Out} {l0 l1 l2 l3 l4 l5 l6 l7 : Option AV} {i : Int32} {o : OId} {L2 : List (Nat × AV)} {St : List AV} {S : SS} : ev c 311 1515 [l0, l1, l2, l3, l4, l5, l6, l7] L2 (aI i :: aR o :: St) S = kI o i (ev c 311 1516 [l0, l1, l2, l3, l4, l5, l6, l7] L2 (aI (agI S o i.toNatClampNeg) :: St) S) := ev_iaload i311_1515
theorem i311_1516 : insAt 311 1516 = some (.invokevirtual 240, 3, (278, 2, 2, 12), 493) := rfl
theorem s311_1516 {c : Nat → List AV → SS → Option Out} {l0 l1 l2 l3 l4 l5 l6 l7 : Option AV} {a0 : Int32} {a1 : Int32} {j t : Nat} {L2 : List (Nat × AV)} {S : SS} : ev c 311 1516 [l0, l1, l2, l3, l4, l5, l6, l7] L2 [aI a1, aI a0, aR (12, j, t)] S = ck (c 278 [aR (12, j, t), aI a0, aI a1] S) (fun v S' => ev c 311 1519 [l0, l1, l2, l3, l4, l5, l6, l7] L2 (v.toList ++ []) S') := ev_call i311_1516 rfl
theorem i311_1519 : insAt 311 1519 = some (.istore 7, 2, (0, 0, 0, 0), 0) := rfl
theorem s311_1519 {c : Nat → List AV → SS → Option Out} {l0 l1 l2 l3 l4 l5 l6 l7 : Option AV} {x : Int32} {L2 : List (Nat × AV)} {St : List AV} {S : SS} : ev c 311 1519 [l0, l1, l2, l3, l4, l5, l6, l7] L2 (aI x :: St) S = ev c 311 1521 [l0, l1, l2, l3, l4, l5, l6, some (aI x)] (kil L2 7) St S := ev_go i311_1519 rfl
theorem i311_1521 : insAt 311 1521 = some (.aload_n 2, 1, (0, 0, 0, 0), 0) := rfl
theorem s311_1521 {c : Nat → List AV → SS → Option Out} {l0 l1 l3 l4 l5 l6 l7 : Option AV} {o : OId} {L2 : List (Nat × AV)} {St : List AV} {S : SS} : ev c 311 1521 [l0, l1, some (aR o), l3, l4, l5, l6, l7] L2 St S = ev c 311 1522 [l0, l1, some (aR o), l3, l4, l5, l6, l7] L2 (aR o :: St) S := ev_go i311_1521 rfl
theorem i311_1522 : insAt 311 1522 = some (.invokevirtual 149, 3, (215, 0, 2, 12), 441) := rfl
theorem s311_1522 {c : Nat → List AV → SS → Option Out} {l0 l1 l2 l3 l4 l5 l6 l7 : Option AV} {j t : Nat} {L2 : List (Nat × AV)} {S : SS} : ev c 311 1522 [l0, l1, l2, l3, l4, l5, l6, l7] L2 [aR (12, j, t)] S = ck (c 215 [aR (12, j, t)] S) (fun v S' => ev c 311 1525 [l0, l1, l2, l3, l4, l5, l6, l7] L2 (v.toList ++ []) S') := ev_call i311_1522 rfl
theorem i311_1525 : insAt 311 1525 = some (.iload 6, 2, (0, 0, 0, 0), 0) := rfl
theorem s311_1525 {c : Nat → List AV → SS → Option Out} {l0 l1 l2 l3 l4 l5 l7 : Option AV} {x : Int32} {L2 : List (Nat × AV)} {St : List AV} {S : SS} : ev c 311 1525 [l0, l1, l2, l3, l4, l5, some (aI x), l7] L2 St S = ev c 311 1527 [l0, l1, l2, l3, l4, l5, some (aI x), l7] L2 (aI x :: St) S := ev_go i311_1525 rfl
theorem i311_1527 : insAt 311 1527 = some (.if_icmp .eq 5, 3, (0, 0, 0, 0), 0) := rfl
theorem s311_1527 {c : Nat → List AV → SS → Option Out} {l0 l1 l2 l3 l4 l5 l6 l7 : Option AV} {x y : Int32} {L2 : List (Nat × AV)} {St : List AV} {S : SS} : ev c 311 1527 [l0, l1, l2, l3, l4, l5, l6, l7] L2 (aI y :: aI x :: St) S = if x = y then ev c 311 1532 [l0, l1, l2, l3, l4, l5, l6, l7] L2 St S else ev c 311 1530 [l0, l1, l2, l3, l4, l5, l6, l7] L2 St S := ev_br i311_1527 rfl
theorem i311_1530 : insAt 311 1530 = some (.iconst 0, 1, (0, 0, 0, 0), 0) := rfl
theorem s311_1530 {c : Nat → List AV → SS → Option Out} {l0 l1 l2 l3 l4 l5 l6 l7 : Option AV} {L2 : List (Nat × AV)} {St : List AV} {S : SS} : ev c 311 1530 [l0, l1, l2, l3, l4, l5, l6, l7] L2 St S = ev c 311 1531 [l0, l1, l2, l3, l4, l5, l6, l7] L2 (aI 0 :: St) S := ev_go i311_1530 rfl
theorem i311_1531 : insAt 311 1531 = some (.ireturn, 1, (0, 0, 0, 0), 0) := rfl
theorem s311_1531 {c : Nat → List AV → SS → Option Out} {l0 l1 l2 l3 l4 l5 l6 l7 : Option AV} {x : Int32} {L2 : List (Nat × AV)} {S : SS} : ev c 311 1531 [l0, l1, l2, l3, l4, l5, l6, l7] L2 [aI x] S = if x = 0 ∨ x = 1 then some (.inl (some (aI x)), S) else none := ev_rt i311_1531 rfl
theorem i311_1532 : insAt 311 1532 = some (.iload 6, 2, (0, 0, 0, 0), 0) := rfl
theorem s311_1532 {c : Nat → List AV → SS → Option Out} {l0 l1 l2 l3 l4 l5 l7 : Option AV} {x : Int32} {L2 : List (Nat × AV)} {St : List AV} {S : SS} : ev c 311 1532 [l0, l1, l2, l3, l4, l5, some (aI x), l7] L2 St S = ev c 311 1534 [l0, l1, l2, l3, l4, l5, some (aI x), l7] L2 (aI x :: St) S := ev_go i311_1532 rfl
theorem i311_1534 : insAt 311 1534 = some (.ifCond .ne 15, 3, (0, 0, 0, 0), 0) := rfl
theorem s311_1534 {c : Nat → List AV → SS → Option Out} {l0 l1 l2 l3 l4 l5 l6 l7 : Option AV} {x : Int32} {L2 : List (Nat × AV)} {St : List AV} {S : SS} : ev c 311 1534 [l0, l1, l2, l3, l4, l5, l6, l7] L2 (aI x :: St) S = if x = 0 then ev c 311 1537 [l0, l1, l2, l3, l4, l5, l6, l7] L2 St S else ev c 311 1549 [l0, l1, l2, l3, l4, l5, l6, l7] L2 St S := (ev_br i311_1534 rfl).trans (ite_not _ _ _)
theorem i311_1537 : insAt 311 1537 = some (.aload_n 3, 1, (0, 0, 0, 0), 0) := rfl
theorem s311_1537 {c : Nat → List AV → SS → Option Out} {l0 l1 l2 l4 l5 l6 l7 : Option AV} {o : OId} {L2 : List (Nat × AV)} {St : List AV} {S : SS} : ev c 311 1537 [l0, l1, l2, some (aR o), l4, l5, l6, l7] L2 St S = ev c 311 1538 [l0, l1, l2, some (aR o), l4, l5, l6, l7] L2 (aR o :: St) S := ev_go i311_1537 rfl
theorem i311_1538 : insAt 311 1538 = some (.iconst 0, 1, (0, 0, 0, 0), 0) := rfl
theorem s311_1538 {c : Nat → List AV → SS → Option Out} {l0 l1 l2 l3 l4 l5 l6 l7 : Option AV} {L2 : List (Nat × AV)} {St : List AV} {S : SS} : ev c 311 1538 [l0, l1, l2, l3, l4, l5, l6, l7] L2 St S = ev c 311 1539 [l0, l1, l2, l3, l4, l5, l6, l7] L2 (aI 0 :: St) S := ev_go i311_1538 rfl
theorem i311_1539 : insAt 311 1539 = some (.laload, 1, (0, 0, 0, 0), 0) := rfl
theorem s311_1539 {c : Nat → List AV → SS → Option Out} {l0 l1 l2 l3 l4 l5 l6 l7 : Option AV} {i : Int32} {o : OId} {L2 : List (Nat × AV)} {St : List AV} {S : SS} : ev c 311 1539 [l0, l1, l2, l3, l4, l5, l6, l7] L2 (aI i :: aR o :: St) S = kJ o i (ev c 311 1540 [l0, l1, l2, l3, l4, l5, l6, l7] L2 (aL (toL (S.2.1 o i.toNatClampNeg)) :: St) S) := ev_laload i311_1539
theorem i311_1540 : insAt 311 1540 = some (.iload 7, 2, (0, 0, 0, 0), 0) := rfl
theorem s311_1540 {c : Nat → List AV → SS → Option Out} {l0 l1 l2 l3 l4 l5 l6 : Option AV} {x : Int32} {L2 : List (Nat × AV)} {St : List AV} {S : SS} : ev c 311 1540 [l0, l1, l2, l3, l4, l5, l6, some (aI x)] L2 St S = ev c 311 1542 [l0, l1, l2, l3, l4, l5, l6, some (aI x)] L2 (aI x :: St) S := ev_go i311_1540 rfl
theorem i311_1542 : insAt 311 1542 = some (.i2l, 1, (0, 0, 0, 0), 0) := rfl
theorem s311_1542 {c : Nat → List AV → SS → Option Out} {l0 l1 l2 l3 l4 l5 l6 l7 : Option AV} {x : Int32} {L2 : List (Nat × AV)} {St : List AV} {S : SS} : ev c 311 1542 [l0, l1, l2, l3, l4, l5, l6, l7] L2 (aI x :: St) S = ev c 311 1543 [l0, l1, l2, l3, l4, l5, l6, l7] L2 (aL x.toInt64 :: St) S := ev_go i311_1542 rfl
theorem i311_1543 : insAt 311 1543 = some (.lcmp, 1, (0, 0, 0, 0), 0) := rfl
theorem s311_1543 {c : Nat → List AV → SS → Option Out} {l0 l1 l2 l3 l4 l5 l6 l7 : Option AV} {x y : Int64} {L2 : List (Nat × AV)} {St : List AV} {S : SS} : ev c 311 1543 [l0, l1, l2, l3, l4, l5, l6, l7] L2 (aL y :: aL x :: St) S = ev c 311 1544 [l0, l1, l2, l3, l4, l5, l6, l7] L2 (aI (if x < y then -1 else if x = y then 0 else 1) :: St) S := ev_go i311_1543 rfl
theorem i311_1544 : insAt 311 1544 = some (.ifCond .eq 5, 3, (0, 0, 0, 0), 0) := rfl
theorem s311_1544 {c : Nat → List AV → SS → Option Out} {l0 l1 l2 l3 l4 l5 l6 l7 : Option AV} {x : Int32} {L2 : List (Nat × AV)} {St : List AV} {S : SS} : ev c 311 1544 [l0, l1, l2, l3, l4, l5, l6, l7] L2 (aI x :: St) S = if x = 0 then ev c 311 1549 [l0, l1, l2, l3, l4, l5, l6, l7] L2 St S else ev c 311 1547 [l0, l1, l2, l3, l4, l5, l6, l7] L2 St S := ev_br i311_1544 rfl
theorem i311_1547 : insAt 311 1547 = some (.iconst 0, 1, (0, 0, 0, 0), 0) := rfl
theorem s311_1547 {c : Nat → List AV → SS → Option Out} {l0 l1 l2 l3 l4 l5 l6 l7 : Option AV} {L2 : List (Nat × AV)} {St : List AV} {S : SS} : ev c 311 1547 [l0, l1, l2, l3, l4, l5, l6, l7] L2 St S = ev c 311 1548 [l0, l1, l2, l3, l4, l5, l6, l7] L2 (aI 0 :: St) S := ev_go i311_1547 rfl
theorem i311_1548 : insAt 311 1548 = some (.ireturn, 1, (0, 0, 0, 0), 0) := rfl
theorem s311_1548 {c : Nat → List AV → SS → Option Out} {l0 l1 l2 l3 l4 l5 l6 l7 : Option AV} {x : Int32} {L2 : List (Nat × AV)} {S : SS} : ev c 311 1548 [l0, l1, l2, l3, l4, l5, l6, l7] L2 [aI x] S = if x = 0 ∨ x = 1 then some (.inl (some (aI x)), S) else none := ev_rt i311_1548 rfl
theorem i311_1549 : insAt 311 1549 = some (.goto 1250, 3, (0, 0, 0, 0), 0) := rfl
theorem s311_1549 {c : Nat → List AV → SS → Option Out} {l0 l1 l2 l3 l4 l5 l6 l7 : Option AV} {L2 : List (Nat × AV)} {St : List AV} {S : SS} : ev c 311 1549 [l0, l1, l2, l3, l4, l5, l6, l7] L2 St S = ev c 311 2799 [l0, l1, l2, l3, l4, l5, l6, l7] L2 St S := ev_go i311_1549 rfl
theorem i311_1552 : insAt 311 1552 = some (.aload_n 1, 1, (0, 0, 0, 0), 0) := rfl
theorem s311_1552 {c : Nat → List AV → SS → Option Out} {l0 l2 l3 l4 l5 l6 l7 : Option AV} {o : OId} {L2 : List (Nat × AV)} {St : List AV} {S : SS} : ev c 311 1552 [l0, some (aR o), l2, l3, l4, l5, l6, l7] L2 St S = ev c 311 1553 [l0, some (aR o), l2, l3, l4, l5, l6, l7] L2 (aR o :: St) S := ev_go i311_1552 rfl
theorem i311_1553 : insAt 311 1553 = some (.aload_n 0, 1, (0, 0, 0, 0), 0) := rfl
theorem s311_1553 {c : Nat → List AV → SS → Option Out} {l1 l2 l3 l4 l5 l6 l7 : Option AV} {o : OId} {L2 : List (Nat × AV)} {St : List AV} {S : SS} : ev c 311 1553 [some (aR o), l1, l2, l3, l4, l5, l6, l7] L2 St S = ev c 311 1554 [some (aR o), l1, l2, l3, l4, l5, l6, l7] L2 (aR o :: St) S := ev_go i311_1553 rfl
theorem i311_1554 : insAt 311 1554 = some (.iload 5, 2, (0, 0, 0, 0), 0) := rfl
theorem s311_1554 {c : Nat → List AV → SS → Option Out} {l0 l1 l2 l3 l4 l6 l7 : Option AV} {x : Int32} {L2 : List (Nat × AV)} {St : List AV} {S : SS} : ev c 311 1554 [l0, l1, l2, l3, l4, some (aI x), l6, l7] L2 St S = ev c 311 1556 [l0, l1, l2, l3, l4, some (aI x), l6, l7] L2 (aI x :: St) S := ev_go i311_1554 rfl
theorem i311_1556 : insAt 311 1556 = some (.iconst 1, 1, (0, 0, 0, 0), 0) := rfl
theorem s311_1556 {c : Nat → List AV → SS → Option Out} {l0 l1 l2 l3 l4 l5 l6 l7 : Option AV} {L2 : List (Nat × AV)} {St : List AV} {S : SS} : ev c 311 1556 [l0, l1, l2, l3, l4, l5, l6, l7] L2 St S = ev c 311 1557 [l0, l1, l2, l3, l4, l5, l6, l7] L2 (aI 1 :: St) S := ev_go i311_1556 rfl
theorem i311_1557 : insAt 311 1557 = some (.iadd, 1, (0, 0, 0, 0), 0) := rfl
theorem s311_1557 {c : Nat → List AV → SS → Option Out} {l0 l1 l2 l3 l4 l5 l6 l7 : Option AV} {x y : Int32} {L2 : List (Nat × AV)} {St : List AV} {S : SS} : ev c 311 1557 [l0, l1, l2, l3, l4, l5, l6, l7] L2 (aI y :: aI x :: St) S = ev c 311 1558 [l0, l1, l2, l3, l4, l5, l6, l7] L2 (aI (x + y) :: St) S := ev_go i311_1557 rfl
theorem i311_1558 : insAt 311 1558 = some (.iaload, 1, (0, 0, 0, 0), 0) := rfl
theorem s311_1558 {c : Nat → List AV → SS → Option Out} {l0 l1 l2 l3 l4 l5 l6 l7 : Option AV} {i : Int32} {o : OId} {L2 : List (Nat × AV)} {St : List AV} {S : SS} : ev c 311 1558 [l0, l1, l2, l3, l4, l5, l6, l7] L2 (aI i :: aR o :: St) S = kI o i (ev c 311 1559 [l0, l1, l2, l3, l4, l5, l6, l7] L2 (aI (agI S o i.toNatClampNeg) :: St) S) := ev_iaload i311_1558
theorem i311_1559 : insAt 311 1559 = some (.aload_n 0, 1, (0, 0, 0, 0), 0) := rfl
theorem s311_1559 {c : Nat → List AV → SS → Option Out} {l1 l2 l3 l4 l5 l6 l7 : Option AV} {o : OId} {L2 : List (Nat × AV)} {St : List AV} {S : SS} : ev c 311 1559 [some (aR o), l1, l2, l3, l4, l5, l6, l7] L2 St S = ev c 311 1560 [some (aR o), l1, l2, l3, l4, l5, l6, l7] L2 (aR o :: St) S := ev_go i311_1559 rfl
theorem i311_1560 : insAt 311 1560 = some (.iload 5, 2, (0, 0, 0, 0), 0) := rfl
theorem s311_1560 {c : Nat → List AV → SS → Option Out} {l0 l1 l2 l3 l4 l6 l7 : Option AV} {x : Int32} {L2 : List (Nat × AV)} {St : List AV} {S : SS} : ev c 311 1560 [l0, l1, l2, l3, l4, some (aI x), l6, l7] L2 St S = ev c 311 1562 [l0, l1, l2, l3, l4, some (aI x), l6, l7] L2 (aI x :: St) S := ev_go i311_1560 rfl
theorem i311_1562 : insAt 311 1562 = some (.iconst 2, 1, (0, 0, 0, 0), 0) := rfl
theorem s311_1562 {c : Nat → List AV → SS → Option Out} {l0 l1 l2 l3 l4 l5 l6 l7 : Option AV} {L2 : List (Nat × AV)} {St : List AV} {S : SS} : ev c 311 1562 [l0, l1, l2, l3, l4, l5, l6, l7] L2 St S = ev c 311 1563 [l0, l1, l2, l3, l4, l5, l6, l7] L2 (aI 2 :: St) S := ev_go i311_1562 rfl
theorem i311_1563 : insAt 311 1563 = some (.iadd, 1, (0, 0, 0, 0), 0) := rfl
theorem s311_1563 {c : Nat → List AV → SS → Option Out} {l0 l1 l2 l3 l4 l5 l6 l7 : Option AV} {x y : Int32} {L2 : List (Nat × AV)} {St : List AV} {S : SS} : ev c 311 1563 [l0, l1, l2, l3, l4, l5, l6, l7] L2 (aI y :: aI x :: St) S = ev c 311 1564 [l0, l1, l2, l3, l4, l5, l6, l7] L2 (aI (x + y) :: St) S := ev_go i311_1563 rfl
theorem i311_1564 : insAt 311 1564 = some (.iaload, 1, (0, 0, 0, 0), 0) := rfl
theorem s311_1564 {c : Nat → List AV → SS → Option Out} {l0 l1 l2 l3 l4 l5 l6 l7 : Option AV} {i : Int32} {o : OId} {L2 : List (Nat × AV)} {St : List AV} {S : SS} : ev c 311 1564 [l0, l1, l2, l3, l4, l5, l6, l7] L2 (aI i :: aR o :: St) S = kI o i (ev c 311 1565 [l0, l1, l2, l3, l4, l5, l6, l7] L2 (aI (agI S o i.toNatClampNeg) :: St) S) := ev_iaload i311_1564
theorem i311_1565 : insAt 311 1565 = some (.aload_n 3, 1, (0, 0, 0, 0), 0) := rfl
theorem s311_1565 {c : Nat → List AV → SS → Option Out} {l0 l1 l2 l4 l5 l6 l7 : Option AV} {o : OId} {L2 : List (Nat × AV)} {St : List AV} {S : SS} : ev c 311 1565 [l0, l1, l2, some (aR o), l4, l5, l6, l7] L2 St S = ev c 311 1566 [l0, l1, l2, some (aR o), l4, l5, l6, l7] L2 (aR o :: St) S := ev_go i311_1565 rfl
theorem i311_1566 : insAt 311 1566 = some (.invokestatic 241, 3, (126, 4, 0, 0), 494) := rfl
theorem s311_1566 {c : Nat → List AV → SS → Option Out} {l0 l1 l2 l3 l4 l5 l6 l7 : Option AV} {a0 : OId} {a1 : Int32} {a2 : Int32} {a3 : OId} {L2 : List (Nat × AV)} {S : SS} : ev c 311 1566 [l0, l1, l2, l3, l4, l5, l6, l7] L2 [aR a3, aI a2, aI a1, aR a0] S = ck (c 126 [aR a0, aI a1, aI a2, aR a3] S) (fun v S' => ev c 311 1569 [l0, l1, l2, l3, l4, l5, l6, l7] L2 (v.toList ++ []) S') := ev_call i311_1566 rfl
theorem i311_1569 : insAt 311 1569 = some (.istore 6, 2, (0, 0, 0, 0), 0) := rfl
theorem s311_1569 {c : Nat → List AV → SS → Option Out} {l0 l1 l2 l3 l4 l5 l6 l7 : Option AV} {x : Int32} {L2 : List (Nat × AV)} {St : List AV} {S : SS} : ev c 311 1569 [l0, l1, l2, l3, l4, l5, l6, l7] L2 (aI x :: St) S = ev c 311 1571 [l0, l1, l2, l3, l4, l5, some (aI x), l7] (kil L2 6) St S := ev_go i311_1569 rfl
theorem i311_1571 : insAt 311 1571 = some (.aload_n 2, 1, (0, 0, 0, 0), 0) := rfl
theorem s311_1571 {c : Nat → List AV → SS → Option Out} {l0 l1 l3 l4 l5 l6 l7 : Option AV} {o : OId} {L2 : List (Nat × AV)} {St : List AV} {S : SS} : ev c 311 1571 [l0, l1, some (aR o), l3, l4, l5, l6, l7] L2 St S = ev c 311 1572 [l0, l1, some (aR o), l3, l4, l5, l6, l7] L2 (aR o :: St) S := ev_go i311_1571 rfl
theorem i311_1572 : insAt 311 1572 = some (.aload_n 0, 1, (0, 0, 0, 0), 0) := rfl
theorem s311_1572 {c : Nat → List AV → SS → Option Out} {l1 l2 l3 l4 l5 l6 l7 : Option AV} {o : OId} {L2 : List (Nat × AV)} {St : List AV} {S : SS} : ev c 311 1572 [some (aR o), l1, l2, l3, l4, l5, l6, l7] L2 St S = ev c 311 1573 [some (aR o), l1, l2, l3, l4, l5, l6, l7] L2 (aR o :: St) S := ev_go i311_1572 rfl
theorem i311_1573 : insAt 311 1573 = some (.iload 5, 2, (0, 0, 0, 0), 0) := rfl
theorem s311_1573 {c : Nat → List AV → SS → Option Out} {l0 l1 l2 l3 l4 l6 l7 : Option AV} {x : Int32} {L2 : List (Nat × AV)} {St : List AV} {S : SS} : ev c 311 1573 [l0, l1, l2, l3, l4, some (aI x), l6, l7] L2 St S = ev c 311 1575 [l0, l1, l2, l3, l4, some (aI x), l6, l7] L2 (aI x :: St) S := ev_go i311_1573 rfl
theorem i311_1575 : insAt 311 1575 = some (.iconst 1, 1, (0, 0, 0, 0), 0) := rfl
theorem s311_1575 {c : Nat → List AV → SS → Option Out} {l0 l1 l2 l3 l4 l5 l6 l7 : Option AV} {L2 : List (Nat × AV)} {St : List AV} {S : SS} : ev c 311 1575 [l0, l1, l2, l3, l4, l5, l6, l7] L2 St S = ev c 311 1576 [l0, l1, l2, l3, l4, l5, l6, l7] L2 (aI 1 :: St) S := ev_go i311_1575 rfl
theorem i311_1576 : insAt 311 1576 = some (.iadd, 1, (0, 0, 0, 0), 0) := rfl
theorem s311_1576 {c : Nat → List AV → SS → Option Out} {l0 l1 l2 l3 l4 l5 l6 l7 : Option AV} {x y : Int32} {L2 : List (Nat × AV)} {St : List AV} {S : SS} : ev c 311 1576 [l0, l1, l2, l3, l4, l5, l6, l7] L2 (aI y :: aI x :: St) S = ev c 311 1577 [l0, l1, l2, l3, l4, l5, l6, l7] L2 (aI (x + y) :: St) S := ev_go i311_1576 rfl
theorem i311_1577 : insAt 311 1577 = some (.iaload, 1, (0, 0, 0, 0), 0) := rfl
theorem s311_1577 {c : Nat → List AV → SS → Option Out} {l0 l1 l2 l3 l4 l5 l6 l7 : Option AV} {i : Int32} {o : OId} {L2 : List (Nat × AV)} {St : List AV} {S : SS} : ev c 311 1577 [l0, l1, l2, l3, l4, l5, l6, l7] L2 (aI i :: aR o :: St) S = kI o i (ev c 311 1578 [l0, l1, l2, l3, l4, l5, l6, l7] L2 (aI (agI S o i.toNatClampNeg) :: St) S) := ev_iaload i311_1577
theorem i311_1578 : insAt 311 1578 = some (.aload_n 0, 1, (0, 0, 0, 0), 0) := rfl
theorem s311_1578 {c : Nat → List AV → SS → Option Out} {l1 l2 l3 l4 l5 l6 l7 : Option AV} {o : OId} {L2 : List (Nat × AV)} {St : List AV} {S : SS} : ev c 311 1578 [some (aR o), l1, l2, l3, l4, l5, l6, l7] L2 St S = ev c 311 1579 [some (aR o), l1, l2, l3, l4, l5, l6, l7] L2 (aR o :: St) S := ev_go i311_1578 rfl
theorem i311_1579 : insAt 311 1579 = some (.iload 5, 2, (0, 0, 0, 0), 0) := rfl
theorem s311_1579 {c : Nat → List AV → SS → Option Out} {l0 l1 l2 l3 l4 l6 l7 : Option AV} {x : Int32} {L2 : List (Nat × AV)} {St : List AV} {S : SS} : ev c 311 1579 [l0, l1, l2, l3, l4, some (aI x), l6, l7] L2 St S = ev c 311 1581 [l0, l1, l2, l3, l4, some (aI x), l6, l7] L2 (aI x :: St) S := ev_go i311_1579 rfl
theorem i311_1581 : insAt 311 1581 = some (.iconst 2, 1, (0, 0, 0, 0), 0) := rfl
theorem s311_1581 {c : Nat → List AV → SS → Option Out} {l0 l1 l2 l3 l4 l5 l6 l7 : Option AV} {L2 : List (Nat × AV)} {St : List AV} {S : SS} : ev c 311 1581 [l0, l1, l2, l3, l4, l5, l6, l7] L2 St S = ev c 311 1582 [l0, l1, l2, l3, l4, l5, l6, l7] L2 (aI 2 :: St) S := ev_go i311_1581 rfl
theorem i311_1582 : insAt 311 1582 = some (.iadd, 1, (0, 0, 0, 0), 0) := rfl
theorem s311_1582 {c : Nat → List AV → SS → Option Out} {l0 l1 l2 l3 l4 l5 l6 l7 : Option AV} {x y : Int32} {L2 : List (Nat × AV)} {St : List AV} {S : SS} : ev c 311 1582 [l0, l1, l2, l3, l4, l5, l6, l7] L2 (aI y :: aI x :: St) S = ev c 311 1583 [l0, l1, l2, l3, l4, l5, l6, l7] L2 (aI (x + y) :: St) S := ev_go i311_1582 rfl
theorem i311_1583 : insAt 311 1583 = some (.iaload, 1, (0, 0, 0, 0), 0) := rfl
theorem s311_1583 {c : Nat → List AV → SS → Option Out} {l0 l1 l2 l3 l4 l5 l6 l7 : Option AV} {i : Int32} {o : OId} {L2 : List (Nat × AV)} {St : List AV} {S : SS} : ev c 311 1583 [l0, l1, l2, l3, l4, l5, l6, l7] L2 (aI i :: aR o :: St) S = kI o i (ev c 311 1584 [l0, l1, l2, l3, l4, l5, l6, l7] L2 (aI (agI S o i.toNatClampNeg) :: St) S) := ev_iaload i311_1583
theorem i311_1584 : insAt 311 1584 = some (.invokevirtual 243, 3, (279, 2, 2, 12), 495) := rfl
theorem s311_1584 {c : Nat → List AV → SS → Option Out} {l0 l1 l2 l3 l4 l5 l6 l7 : Option AV} {a0 : Int32} {a1 : Int32} {j t : Nat} {L2 : List (Nat × AV)} {S : SS} : ev c 311 1584 [l0, l1, l2, l3, l4, l5, l6, l7] L2 [aI a1, aI a0, aR (12, j, t)] S = ck (c 279 [aR (12, j, t), aI a0, aI a1] S) (fun v S' => ev c 311 1587 [l0, l1, l2, l3, l4, l5, l6, l7] L2 (v.toList ++ []) S') := ev_call i311_1584 rfl
theorem i311_1587 : insAt 311 1587 = some (.istore 7, 2, (0, 0, 0, 0), 0) := rfl
theorem s311_1587 {c : Nat → List AV → SS → Option Out} {l0 l1 l2 l3 l4 l5 l6 l7 : Option AV} {x : Int32} {L2 : List (Nat × AV)} {St : List AV} {S : SS} : ev c 311 1587 [l0, l1, l2, l3, l4, l5, l6, l7] L2 (aI x :: St) S = ev c 311 1589 [l0, l1, l2, l3, l4, l5, l6, some (aI x)] (kil L2 7) St S := ev_go i311_1587 rfl
theorem i311_1589 : insAt 311 1589 = some (.aload_n 2, 1, (0, 0, 0, 0), 0) := rfl
theorem s311_1589 {c : Nat → List AV → SS → Option Out} {l0 l1 l3 l4 l5 l6 l7 : Option AV} {o : OId} {L2 : List (Nat × AV)} {St : List AV} {S : SS} : ev c 311 1589 [l0, l1, some (aR o), l3, l4, l5, l6, l7] L2 St S = ev c 311 1590 [l0, l1, some (aR o), l3, l4, l5, l6, l7] L2 (aR o :: St) S := ev_go i311_1589 rfl
theorem i311_1590 : insAt 311 1590 = some (.invokevirtual 149, 3, (215, 0, 2, 12), 441) := rfl
theorem s311_1590 {c : Nat → List AV → SS → Option Out} {l0 l1 l2 l3 l4 l5 l6 l7 : Option AV} {j t : Nat} {L2 : List (Nat × AV)} {S : SS} : ev c 311 1590 [l0, l1, l2, l3, l4, l5, l6, l7] L2 [aR (12, j, t)] S = ck (c 215 [aR (12, j, t)] S) (fun v S' => ev c 311 1593 [l0, l1, l2, l3, l4, l5, l6, l7] L2 (v.toList ++ []) S') := ev_call i311_1590 rfl
theorem i311_1593 : insAt 311 1593 = some (.iload 6, 2, (0, 0, 0, 0), 0) := rfl
theorem s311_1593 {c : Nat → List AV → SS → Option Out} {l0 l1 l2 l3 l4 l5 l7 : Option AV} {x : Int32} {L2 : List (Nat × AV)} {St : List AV} {S : SS} : ev c 311 1593 [l0, l1, l2, l3, l4, l5, some (aI x), l7] L2 St S = ev c 311 1595 [l0, l1, l2, l3, l4, l5, some (aI x), l7] L2 (aI x :: St) S := ev_go i311_1593 rfl
theorem i311_1595 : insAt 311 1595 = some (.if_icmp .eq 5, 3, (0, 0, 0, 0), 0) := rfl
theorem s311_1595 {c : Nat → List AV → SS → Option Out} {l0 l1 l2 l3 l4 l5 l6 l7 : Option AV} {x y : Int32} {L2 : List (Nat × AV)} {St : List AV} {S : SS} : ev c 311 1595 [l0, l1, l2, l3, l4, l5, l6, l7] L2 (aI y :: aI x :: St) S = if x = y then ev c 311 1600 [l0, l1, l2, l3, l4, l5, l6, l7] L2 St S else ev c 311 1598 [l0, l1, l2, l3, l4, l5, l6, l7] L2 St S := ev_br i311_1595 rfl
theorem i311_1598 : insAt 311 1598 = some (.iconst 0, 1, (0, 0, 0, 0), 0) := rfl
theorem s311_1598 {c : Nat → List AV → SS → Option Out} {l0 l1 l2 l3 l4 l5 l6 l7 : Option AV} {L2 : List (Nat × AV)} {St : List AV} {S : SS} : ev c 311 1598 [l0, l1, l2, l3, l4, l5, l6, l7] L2 St S = ev c 311 1599 [l0, l1, l2, l3, l4, l5, l6, l7] L2 (aI 0 :: St) S := ev_go i311_1598 rfl
theorem i311_1599 : insAt 311 1599 = some (.ireturn, 1, (0, 0, 0, 0), 0) := rfl
theorem s311_1599 {c : Nat → List AV → SS → Option Out} {l0 l1 l2 l3 l4 l5 l6 l7 : Option AV} {x : Int32} {L2 : List (Nat × AV)} {S : SS} : ev c 311 1599 [l0, l1, l2, l3, l4, l5, l6, l7] L2 [aI x] S = if x = 0 ∨ x = 1 then some (.inl (some (aI x)), S) else none := ev_rt i311_1599 rfl
theorem i311_1600 : insAt 311 1600 = some (.iload 6, 2, (0, 0, 0, 0), 0) := rfl
theorem s311_1600 {c : Nat → List AV → SS → Option Out} {l0 l1 l2 l3 l4 l5 l7 : Option AV} {x : Int32} {L2 : List (Nat × AV)} {St : List AV} {S : SS} : ev c 311 1600 [l0, l1, l2, l3, l4, l5, some (aI x), l7] L2 St S = ev c 311 1602 [l0, l1, l2, l3, l4, l5, some (aI x), l7] L2 (aI x :: St) S := ev_go i311_1600 rfl
theorem i311_1602 : insAt 311 1602 = some (.ifCond .ne 15, 3, (0, 0, 0, 0), 0) := rfl
theorem s311_1602 {c : Nat → List AV → SS → Option Out} {l0 l1 l2 l3 l4 l5 l6 l7 : Option AV} {x : Int32} {L2 : List (Nat × AV)} {St : List AV} {S : SS} : ev c 311 1602 [l0, l1, l2, l3, l4, l5, l6, l7] L2 (aI x :: St) S = if x = 0 then ev c 311 1605 [l0, l1, l2, l3, l4, l5, l6, l7] L2 St S else ev c 311 1617 [l0, l1, l2, l3, l4, l5, l6, l7] L2 St S := (ev_br i311_1602 rfl).trans (ite_not _ _ _)
theorem i311_1605 : insAt 311 1605 = some (.aload_n 3, 1, (0, 0, 0, 0), 0) := rfl
theorem s311_1605 {c : Nat → List AV → SS → Option Out} {l0 l1 l2 l4 l5 l6 l7 : Option AV} {o : OId} {L2 : List (Nat × AV)} {St : List AV} {S : SS} : ev c 311 1605 [l0, l1, l2, some (aR o), l4, l5, l6, l7] L2 St S = ev c 311 1606 [l0, l1, l2, some (aR o), l4, l5, l6, l7] L2 (aR o :: St) S := ev_go i311_1605 rfl
theorem i311_1606 : insAt 311 1606 = some (.iconst 0, 1, (0, 0, 0, 0), 0) := rfl
theorem s311_1606 {c : Nat → List AV → SS → Option Out} {l0 l1 l2 l3 l4 l5 l6 l7 : Option AV} {L2 : List (Nat × AV)} {St : List AV} {S : SS} : ev c 311 1606 [l0, l1, l2, l3, l4, l5, l6, l7] L2 St S = ev c 311 1607 [l0, l1, l2, l3, l4, l5, l6, l7] L2 (aI 0 :: St) S := ev_go i311_1606 rfl
theorem i311_1607 : insAt 311 1607 = some (.laload, 1, (0, 0, 0, 0), 0) := rfl
theorem s311_1607 {c : Nat → List AV → SS → Option Out} {l0 l1 l2 l3 l4 l5 l6 l7 : Option AV} {i : Int32} {o : OId} {L2 : List (Nat × AV)} {St : List AV} {S : SS} : ev c 311 1607 [l0, l1, l2, l3, l4, l5, l6, l7] L2 (aI i :: aR o :: St) S = kJ o i (ev c 311 1608 [l0, l1, l2, l3, l4, l5, l6, l7] L2 (aL (toL (S.2.1 o i.toNatClampNeg)) :: St) S) := ev_laload i311_1607
theorem i311_1608 : insAt 311 1608 = some (.iload 7, 2, (0, 0, 0, 0), 0) := rfl
theorem s311_1608 {c : Nat → List AV → SS → Option Out} {l0 l1 l2 l3 l4 l5 l6 : Option AV} {x : Int32} {L2 : List (Nat × AV)} {St : List AV} {S : SS} : ev c 311 1608 [l0, l1, l2, l3, l4, l5, l6, some (aI x)] L2 St S = ev c 311 1610 [l0, l1, l2, l3, l4, l5, l6, some (aI x)] L2 (aI x :: St) S := ev_go i311_1608 rfl
theorem i311_1610 : insAt 311 1610 = some (.i2l, 1, (0, 0, 0, 0), 0) := rfl
theorem s311_1610 {c : Nat → List AV → SS → Option Out} {l0 l1 l2 l3 l4 l5 l6 l7 : Option AV} {x : Int32} {L2 : List (Nat × AV)} {St : List AV} {S : SS} : ev c 311 1610 [l0, l1, l2, l3, l4, l5, l6, l7] L2 (aI x :: St) S = ev c 311 1611 [l0, l1, l2, l3, l4, l5, l6, l7] L2 (aL x.toInt64 :: St) S := ev_go i311_1610 rfl
theorem i311_1611 : insAt 311 1611 = some (.lcmp, 1, (0, 0, 0, 0), 0) := rfl
theorem s311_1611 {c : Nat → List AV → SS → Option Out} {l0 l1 l2 l3 l4 l5 l6 l7 : Option AV} {x y : Int64} {L2 : List (Nat × AV)} {St : List AV} {S : SS} : ev c 311 1611 [l0, l1, l2, l3, l4, l5, l6, l7] L2 (aL y :: aL x :: St) S = ev c 311 1612 [l0, l1, l2, l3, l4, l5, l6, l7] L2 (aI (if x < y then -1 else if x = y then 0 else 1) :: St) S := ev_go i311_1611 rfl
theorem i311_1612 : insAt 311 1612 = some (.ifCond .eq 5, 3, (0, 0, 0, 0), 0) := rfl
theorem s311_1612 {c : Nat → List AV → SS → Option Out} {l0 l1 l2 l3 l4 l5 l6 l7 : Option AV} {x : Int32} {L2 : List (Nat × AV)} {St : List AV} {S : SS} : ev c 311 1612 [l0, l1, l2, l3, l4, l5, l6, l7] L2 (aI x :: St) S = if x = 0 then ev c 311 1617 [l0, l1, l2, l3, l4, l5, l6, l7] L2 St S else ev c 311 1615 [l0, l1, l2, l3, l4, l5, l6, l7] L2 St S := ev_br i311_1612 rfl
theorem i311_1615 : insAt 311 1615 = some (.iconst 0, 1, (0, 0, 0, 0), 0) := rfl
theorem s311_1615 {c : Nat → List AV → SS → Option Out} {l0 l1 l2 l3 l4 l5 l6 l7 : Option AV} {L2 : List (Nat × AV)} {St : List AV} {S : SS} : ev c 311 1615 [l0, l1, l2, l3, l4, l5, l6, l7] L2 St S = ev c 311 1616 [l0, l1, l2, l3, l4, l5, l6, l7] L2 (aI 0 :: St) S := ev_go i311_1615 rfl
theorem i311_1616 : insAt 311 1616 = some (.ireturn, 1, (0, 0, 0, 0), 0) := rfl
theorem s311_1616 {c : Nat → List AV → SS → Option Out} {l0 l1 l2 l3 l4 l5 l6 l7 : Option AV} {x : Int32} {L2 : List (Nat × AV)} {S : SS} : ev c 311 1616 [l0, l1, l2, l3, l4, l5, l6, l7] L2 [aI x] S = if x = 0 ∨ x = 1 then some (.inl (some (aI x)), S) else none := ev_rt i311_1616 rfl
theorem i311_1617 : insAt 311 1617 = some (.goto 1182, 3, (0, 0, 0, 0), 0) := rfl
theorem s311_1617 {c : Nat → List AV → SS → Option Out} {l0 l1 l2 l3 l4 l5 l6 l7 : Option AV} {L2 : List (Nat × AV)} {St : List AV} {S : SS} : ev c 311 1617 [l0, l1, l2, l3, l4, l5, l6, l7] L2 St S = ev c 311 2799 [l0, l1, l2, l3, l4, l5, l6, l7] L2 St S := ev_go i311_1617 rfl
theorem i311_1620 : insAt 311 1620 = some (.aload_n 1, 1, (0, 0, 0, 0), 0) := rfl
theorem s311_1620 {c : Nat → List AV → SS → Option Out} {l0 l2 l3 l4 l5 l6 l7 : Option AV} {o : OId} {L2 : List (Nat × AV)} {St : List AV} {S : SS} : ev c 311 1620 [l0, some (aR o), l2, l3, l4, l5, l6, l7] L2 St S = ev c 311 1621 [l0, some (aR o), l2, l3, l4, l5, l6, l7] L2 (aR o :: St) S := ev_go i311_1620 rfl
theorem i311_1621 : insAt 311 1621 = some (.aload_n 0, 1, (0, 0, 0, 0), 0) := rfl
theorem s311_1621 {c : Nat → List AV → SS → Option Out} {l1 l2 l3 l4 l5 l6 l7 : Option AV} {o : OId} {L2 : List (Nat × AV)} {St : List AV} {S : SS} : ev c 311 1621 [some (aR o), l1, l2, l3, l4, l5, l6, l7] L2 St S = ev c 311 1622 [some (aR o), l1, l2, l3, l4, l5, l6, l7] L2 (aR o :: St) S := ev_go i311_1621 rfl
theorem i311_1622 : insAt 311 1622 = some (.iload 5, 2, (0, 0, 0, 0), 0) := rfl
theorem s311_1622 {c : Nat → List AV → SS → Option Out} {l0 l1 l2 l3 l4 l6 l7 : Option AV} {x : Int32} {L2 : List (Nat × AV)} {St : List AV} {S : SS} : ev c 311 1622 [l0, l1, l2, l3, l4, some (aI x), l6, l7] L2 St S = ev c 311 1624 [l0, l1, l2, l3, l4, some (aI x), l6, l7] L2 (aI x :: St) S := ev_go i311_1622 rfl
theorem i311_1624 : insAt 311 1624 = some (.iconst 1, 1, (0, 0, 0, 0), 0) := rfl
theorem s311_1624 {c : Nat → List AV → SS → Option Out} {l0 l1 l2 l3 l4 l5 l6 l7 : Option AV} {L2 : List (Nat × AV)} {St : List AV} {S : SS} : ev c 311 1624 [l0, l1, l2, l3, l4, l5, l6, l7] L2 St S = ev c 311 1625 [l0, l1, l2, l3, l4, l5, l6, l7] L2 (aI 1 :: St) S := ev_go i311_1624 rfl
theorem i311_1625 : insAt 311 1625 = some (.iadd, 1, (0, 0, 0, 0), 0) := rfl
theorem s311_1625 {c : Nat → List AV → SS → Option Out} {l0 l1 l2 l3 l4 l5 l6 l7 : Option AV} {x y : Int32} {L2 : List (Nat × AV)} {St : List AV} {S : SS} : ev c 311 1625 [l0, l1, l2, l3, l4, l5, l6, l7] L2 (aI y :: aI x :: St) S = ev c 311 1626 [l0, l1, l2, l3, l4, l5, l6, l7] L2 (aI (x + y) :: St) S := ev_go i311_1625 rfl
theorem i311_1626 : insAt 311 1626 = some (.iaload, 1, (0, 0, 0, 0), 0) := rfl
theorem s311_1626 {c : Nat → List AV → SS → Option Out} {l0 l1 l2 l3 l4 l5 l6 l7 : Option AV} {i : Int32} {o : OId} {L2 : List (Nat × AV)} {St : List AV} {S : SS} : ev c 311 1626 [l0, l1, l2, l3, l4, l5, l6, l7] L2 (aI i :: aR o :: St) S = kI o i (ev c 311 1627 [l0, l1, l2, l3, l4, l5, l6, l7] L2 (aI (agI S o i.toNatClampNeg) :: St) S) := ev_iaload i311_1626
theorem i311_1627 : insAt 311 1627 = some (.aload_n 0, 1, (0, 0, 0, 0), 0) := rfl
theorem s311_1627 {c : Nat → List AV → SS → Option Out} {l1 l2 l3 l4 l5 l6 l7 : Option AV} {o : OId} {L2 : List (Nat × AV)} {St : List AV} {S : SS} : ev c 311 1627 [some (aR o), l1, l2, l3, l4, l5, l6, l7] L2 St S = ev c 311 1628 [some (aR o), l1, l2, l3, l4, l5, l6, l7] L2 (aR o :: St) S := ev_go i311_1627 rfl
theorem i311_1628 : insAt 311 1628 = some (.iload 5, 2, (0, 0, 0, 0), 0) := rfl
theorem s311_1628 {c : Nat → List AV → SS → Option Out} {l0 l1 l2 l3 l4 l6 l7 : Option AV} {x : Int32} {L2 : List (Nat × AV)} {St : List AV} {S : SS} : ev c 311 1628 [l0, l1, l2, l3, l4, some (aI x), l6, l7] L2 St S = ev c 311 1630 [l0, l1, l2, l3, l4, some (aI x), l6, l7] L2 (aI x :: St) S := ev_go i311_1628 rfl
theorem i311_1630 : insAt 311 1630 = some (.iconst 2, 1, (0, 0, 0, 0), 0) := rfl
theorem s311_1630 {c : Nat → List AV → SS → Option Out} {l0 l1 l2 l3 l4 l5 l6 l7 : Option AV} {L2 : List (Nat × AV)} {St : List AV} {S : SS} : ev c 311 1630 [l0, l1, l2, l3, l4, l5, l6, l7] L2 St S = ev c 311 1631 [l0, l1, l2, l3, l4, l5, l6, l7] L2 (aI 2 :: St) S := ev_go i311_1630 rfl
theorem i311_1631 : insAt 311 1631 = some (.iadd, 1, (0, 0, 0, 0), 0) := rfl
theorem s311_1631 {c : Nat → List AV → SS → Option Out} {l0 l1 l2 l3 l4 l5 l6 l7 : Option AV} {x y : Int32} {L2 : List (Nat × AV)} {St : List AV} {S : SS} : ev c 311 1631 [l0, l1, l2, l3, l4, l5, l6, l7] L2 (aI y :: aI x :: St) S = ev c 311 1632 [l0, l1, l2, l3, l4, l5, l6, l7] L2 (aI (x + y) :: St) S := ev_go i311_1631 rfl
theorem i311_1632 : insAt 311 1632 = some (.iaload, 1, (0, 0, 0, 0), 0) := rfl
theorem s311_1632 {c : Nat → List AV → SS → Option Out} {l0 l1 l2 l3 l4 l5 l6 l7 : Option AV} {i : Int32} {o : OId} {L2 : List (Nat × AV)} {St : List AV} {S : SS} : ev c 311 1632 [l0, l1, l2, l3, l4, l5, l6, l7] L2 (aI i :: aR o :: St) S = kI o i (ev c 311 1633 [l0, l1, l2, l3, l4, l5, l6, l7] L2 (aI (agI S o i.toNatClampNeg) :: St) S) := ev_iaload i311_1632
theorem i311_1633 : insAt 311 1633 = some (.aload_n 0, 1, (0, 0, 0, 0), 0) := rfl
theorem s311_1633 {c : Nat → List AV → SS → Option Out} {l1 l2 l3 l4 l5 l6 l7 : Option AV} {o : OId} {L2 : List (Nat × AV)} {St : List AV} {S : SS} : ev c 311 1633 [some (aR o), l1, l2, l3, l4, l5, l6, l7] L2 St S = ev c 311 1634 [some (aR o), l1, l2, l3, l4, l5, l6, l7] L2 (aR o :: St) S := ev_go i311_1633 rfl
theorem i311_1634 : insAt 311 1634 = some (.iload 5, 2, (0, 0, 0, 0), 0) := rfl
theorem s311_1634 {c : Nat → List AV → SS → Option Out} {l0 l1 l2 l3 l4 l6 l7 : Option AV} {x : Int32} {L2 : List (Nat × AV)} {St : List AV} {S : SS} : ev c 311 1634 [l0, l1, l2, l3, l4, some (aI x), l6, l7] L2 St S = ev c 311 1636 [l0, l1, l2, l3, l4, some (aI x), l6, l7] L2 (aI x :: St) S := ev_go i311_1634 rfl
theorem i311_1636 : insAt 311 1636 = some (.iconst 3, 1, (0, 0, 0, 0), 0) := rfl
theorem s311_1636 {c : Nat → List AV → SS → Option Out} {l0 l1 l2 l3 l4 l5 l6 l7 : Option AV} {L2 : List (Nat × AV)} {St : List AV} {S : SS} : ev c 311 1636 [l0, l1, l2, l3, l4, l5, l6, l7] L2 St S = ev c 311 1637 [l0, l1, l2, l3, l4, l5, l6, l7] L2 (aI 3 :: St) S := ev_go i311_1636 rfl
theorem i311_1637 : insAt 311 1637 = some (.iadd, 1, (0, 0, 0, 0), 0) := rfl
theorem s311_1637 {c : Nat → List AV → SS → Option Out} {l0 l1 l2 l3 l4 l5 l6 l7 : Option AV} {x y : Int32} {L2 : List (Nat × AV)} {St : List AV} {S : SS} : ev c 311 1637 [l0, l1, l2, l3, l4, l5, l6, l7] L2 (aI y :: aI x :: St) S = ev c 311 1638 [l0, l1, l2, l3, l4, l5, l6, l7] L2 (aI (x + y) :: St) S := ev_go i311_1637 rfl
theorem i311_1638 : insAt 311 1638 = some (.iaload, 1, (0, 0, 0, 0), 0) := rfl
theorem s311_1638 {c : Nat → List AV → SS → Option Out} {l0 l1 l2 l3 l4 l5 l6 l7 : Option AV} {i : Int32} {o : OId} {L2 : List (Nat × AV)} {St : List AV} {S : SS} : ev c 311 1638 [l0, l1, l2, l3, l4, l5, l6, l7] L2 (aI i :: aR o :: St) S = kI o i (ev c 311 1639 [l0, l1, l2, l3, l4, l5, l6, l7] L2 (aI (agI S o i.toNatClampNeg) :: St) S) := ev_iaload i311_1638
theorem i311_1639 : insAt 311 1639 = some (.aload_n 3, 1, (0, 0, 0, 0), 0) := rfl
theorem s311_1639 {c : Nat → List AV → SS → Option Out} {l0 l1 l2 l4 l5 l6 l7 : Option AV} {o : OId} {L2 : List (Nat × AV)} {St : List AV} {S : SS} : ev c 311 1639 [l0, l1, l2, some (aR o), l4, l5, l6, l7] L2 St S = ev c 311 1640 [l0, l1, l2, some (aR o), l4, l5, l6, l7] L2 (aR o :: St) S := ev_go i311_1639 rfl
theorem i311_1640 : insAt 311 1640 = some (.invokestatic 244, 3, (128, 5, 0, 0), 496) := rfl
theorem s311_1640 {c : Nat → List AV → SS → Option Out} {l0 l1 l2 l3 l4 l5 l6 l7 : Option AV} {a0 : OId} {a1 : Int32} {a2 : Int32} {a3 : Int32} {a4 : OId} {L2 : List (Nat × AV)} {S : SS} : ev c 311 1640 [l0, l1, l2, l3, l4, l5, l6, l7] L2 [aR a4, aI a3, aI a2, aI a1, aR a0] S = ck (c 128 [aR a0, aI a1, aI a2, aI a3, aR a4] S) (fun v S' => ev c 311 1643 [l0, l1, l2, l3, l4, l5, l6, l7] L2 (v.toList ++ []) S') := ev_call i311_1640 rfl
theorem i311_1643 : insAt 311 1643 = some (.istore 6, 2, (0, 0, 0, 0), 0) := rfl
theorem s311_1643 {c : Nat → List AV → SS → Option Out} {l0 l1 l2 l3 l4 l5 l6 l7 : Option AV} {x : Int32} {L2 : List (Nat × AV)} {St : List AV} {S : SS} : ev c 311 1643 [l0, l1, l2, l3, l4, l5, l6, l7] L2 (aI x :: St) S = ev c 311 1645 [l0, l1, l2, l3, l4, l5, some (aI x), l7] (kil L2 6) St S := ev_go i311_1643 rfl
theorem i311_1645 : insAt 311 1645 = some (.aload_n 2, 1, (0, 0, 0, 0), 0) := rfl
theorem s311_1645 {c : Nat → List AV → SS → Option Out} {l0 l1 l3 l4 l5 l6 l7 : Option AV} {o : OId} {L2 : List (Nat × AV)} {St : List AV} {S : SS} : ev c 311 1645 [l0, l1, some (aR o), l3, l4, l5, l6, l7] L2 St S = ev c 311 1646 [l0, l1, some (aR o), l3, l4, l5, l6, l7] L2 (aR o :: St) S := ev_go i311_1645 rfl
theorem i311_1646 : insAt 311 1646 = some (.aload_n 0, 1, (0, 0, 0, 0), 0) := rfl
theorem s311_1646 {c : Nat → List AV → SS → Option Out} {l1 l2 l3 l4 l5 l6 l7 : Option AV} {o : OId} {L2 : List (Nat × AV)} {St : List AV} {S : SS} : ev c 311 1646 [some (aR o), l1, l2, l3, l4, l5, l6, l7] L2 St S = ev c 311 1647 [some (aR o), l1, l2, l3, l4, l5, l6, l7] L2 (aR o :: St) S := ev_go i311_1646 rfl
theorem i311_1647 : insAt 311 1647 = some (.iload 5, 2, (0, 0, 0, 0), 0) := rfl
theorem s311_1647 {c : Nat → List AV → SS → Option Out} {l0 l1 l2 l3 l4 l6 l7 : Option AV} {x : Int32} {L2 : List (Nat × AV)} {St : List AV} {S : SS} : ev c 311 1647 [l0, l1, l2, l3, l4, some (aI x), l6, l7] L2 St S = ev c 311 1649 [l0, l1, l2, l3, l4, some (aI x), l6, l7] L2 (aI x :: St) S := ev_go i311_1647 rfl
theorem i311_1649 : insAt 311 1649 = some (.iconst 1, 1, (0, 0, 0, 0), 0) := rfl
theorem s311_1649 {c : Nat → List AV → SS → Option Out} {l0 l1 l2 l3 l4 l5 l6 l7 : Option AV} {L2 : List (Nat × AV)} {St : List AV} {S : SS} : ev c 311 1649 [l0, l1, l2, l3, l4, l5, l6, l7] L2 St S = ev c 311 1650 [l0, l1, l2, l3, l4, l5, l6, l7] L2 (aI 1 :: St) S := ev_go i311_1649 rfl
theorem i311_1650 : insAt 311 1650 = some (.iadd, 1, (0, 0, 0, 0), 0) := rfl
theorem s311_1650 {c : Nat → List AV → SS → Option Out} {l0 l1 l2 l3 l4 l5 l6 l7 : Option AV} {x y : Int32} {L2 : List (Nat × AV)} {St : List AV} {S : SS} : ev c 311 1650 [l0, l1, l2, l3, l4, l5, l6, l7] L2 (aI y :: aI x :: St) S = ev c 311 1651 [l0, l1, l2, l3, l4, l5, l6, l7] L2 (aI (x + y) :: St) S := ev_go i311_1650 rfl
theorem i311_1651 : insAt 311 1651 = some (.iaload, 1, (0, 0, 0, 0), 0) := rfl
theorem s311_1651 {c : Nat → List AV → SS → Option Out} {l0 l1 l2 l3 l4 l5 l6 l7 : Option AV} {i : Int32} {o : OId} {L2 : List (Nat × AV)} {St : List AV} {S : SS} : ev c 311 1651 [l0, l1, l2, l3, l4, l5, l6, l7] L2 (aI i :: aR o :: St) S = kI o i (ev c 311 1652 [l0, l1, l2, l3, l4, l5, l6, l7] L2 (aI (agI S o i.toNatClampNeg) :: St) S) := ev_iaload i311_1651
theorem i311_1652 : insAt 311 1652 = some (.aload_n 0, 1, (0, 0, 0, 0), 0) := rfl
theorem s311_1652 {c : Nat → List AV → SS → Option Out} {l1 l2 l3 l4 l5 l6 l7 : Option AV} {o : OId} {L2 : List (Nat × AV)} {St : List AV} {S : SS} : ev c 311 1652 [some (aR o), l1, l2, l3, l4, l5, l6, l7] L2 St S = ev c 311 1653 [some (aR o), l1, l2, l3, l4, l5, l6, l7] L2 (aR o :: St) S := ev_go i311_1652 rfl
theorem i311_1653 : insAt 311 1653 = some (.iload 5, 2, (0, 0, 0, 0), 0) := rfl
theorem s311_1653 {c : Nat → List AV → SS → Option Out} {l0 l1 l2 l3 l4 l6 l7 : Option AV} {x : Int32} {L2 : List (Nat × AV)} {St : List AV} {S : SS} : ev c 311 1653 [l0, l1, l2, l3, l4, some (aI x), l6, l7] L2 St S = ev c 311 1655 [l0, l1, l2, l3, l4, some (aI x), l6, l7] L2 (aI x :: St) S := ev_go i311_1653 rfl
theorem i311_1655 : insAt 311 1655 = some (.iconst 2, 1, (0, 0, 0, 0), 0) := rfl
theorem s311_1655 {c : Nat → List AV → SS → Option Out} {l0 l1 l2 l3 l4 l5 l6 l7 : Option AV} {L2 : List (Nat × AV)} {St : List AV} {S : SS} : ev c 311 1655 [l0, l1, l2, l3, l4, l5, l6, l7] L2 St S = ev c 311 1656 [l0, l1, l2, l3, l4, l5, l6, l7] L2 (aI 2 :: St) S := ev_go i311_1655 rfl
theorem i311_1656 : insAt 311 1656 = some (.iadd, 1, (0, 0, 0, 0), 0) := rfl
theorem s311_1656 {c : Nat → List AV → SS → Option Out} {l0 l1 l2 l3 l4 l5 l6 l7 : Option AV} {x y : Int32} {L2 : List (Nat × AV)} {St : List AV} {S : SS} : ev c 311 1656 [l0, l1, l2, l3, l4, l5, l6, l7] L2 (aI y :: aI x :: St) S = ev c 311 1657 [l0, l1, l2, l3, l4, l5, l6, l7] L2 (aI (x + y) :: St) S := ev_go i311_1656 rfl
theorem i311_1657 : insAt 311 1657 = some (.iaload, 1, (0, 0, 0, 0), 0) := rfl
theorem s311_1657 {c : Nat → List AV → SS → Option Out} {l0 l1 l2 l3 l4 l5 l6 l7 : Option AV} {i : Int32} {o : OId} {L2 : List (Nat × AV)} {St : List AV} {S : SS} : ev c 311 1657 [l0, l1, l2, l3, l4, l5, l6, l7] L2 (aI i :: aR o :: St) S = kI o i (ev c 311 1658 [l0, l1, l2, l3, l4, l5, l6, l7] L2 (aI (agI S o i.toNatClampNeg) :: St) S) := ev_iaload i311_1657
theorem i311_1658 : insAt 311 1658 = some (.aload_n 0, 1, (0, 0, 0, 0), 0) := rfl
theorem s311_1658 {c : Nat → List AV → SS → Option Out} {l1 l2 l3 l4 l5 l6 l7 : Option AV} {o : OId} {L2 : List (Nat × AV)} {St : List AV} {S : SS} : ev c 311 1658 [some (aR o), l1, l2, l3, l4, l5, l6, l7] L2 St S = ev c 311 1659 [some (aR o), l1, l2, l3, l4, l5, l6, l7] L2 (aR o :: St) S := ev_go i311_1658 rfl
theorem i311_1659 : insAt 311 1659 = some (.iload 5, 2, (0, 0, 0, 0), 0) := rfl
theorem s311_1659 {c : Nat → List AV → SS → Option Out} {l0 l1 l2 l3 l4 l6 l7 : Option AV} {x : Int32} {L2 : List (Nat × AV)} {St : List AV} {S : SS} : ev c 311 1659 [l0, l1, l2, l3, l4, some (aI x), l6, l7] L2 St S = ev c 311 1661 [l0, l1, l2, l3, l4, some (aI x), l6, l7] L2 (aI x :: St) S := ev_go i311_1659 rfl
theorem i311_1661 : insAt 311 1661 = some (.iconst 3, 1, (0, 0, 0, 0), 0) := rfl
theorem s311_1661 {c : Nat → List AV → SS → Option Out} {l0 l1 l2 l3 l4 l5 l6 l7 : Option AV} {L2 : List (Nat × AV)} {St : List AV} {S : SS} : ev c 311 1661 [l0, l1, l2, l3, l4, l5, l6, l7] L2 St S = ev c 311 1662 [l0, l1, l2, l3, l4, l5, l6, l7] L2 (aI 3 :: St) S := ev_go i311_1661 rfl
theorem i311_1662 : insAt 311 1662 = some (.iadd, 1, (0, 0, 0, 0), 0) := rfl
theorem s311_1662 {c : Nat → List AV → SS → Option Out} {l0 l1 l2 l3 l4 l5 l6 l7 : Option AV} {x y : Int32} {L2 : List (Nat × AV)} {St : List AV} {S : SS} : ev c 311 1662 [l0, l1, l2, l3, l4, l5, l6, l7] L2 (aI y :: aI x :: St) S = ev c 311 1663 [l0, l1, l2, l3, l4, l5, l6, l7] L2 (aI (x + y) :: St) S := ev_go i311_1662 rfl
theorem i311_1663 : insAt 311 1663 = some (.iaload, 1, (0, 0, 0, 0), 0) := rfl
theorem s311_1663 {c : Nat → List AV → SS → Option Out} {l0 l1 l2 l3 l4 l5 l6 l7 : Option AV} {i : Int32} {o : OId} {L2 : List (Nat × AV)} {St : List AV} {S : SS} : ev c 311 1663 [l0, l1, l2, l3, l4, l5, l6, l7] L2 (aI i :: aR o :: St) S = kI o i (ev c 311 1664 [l0, l1, l2, l3, l4, l5, l6, l7] L2 (aI (agI S o i.toNatClampNeg) :: St) S) := ev_iaload i311_1663
theorem i311_1664 : insAt 311 1664 = some (.invokevirtual 246, 3, (280, 3, 2, 12), 497) := rfl
theorem s311_1664 {c : Nat → List AV → SS → Option Out} {l0 l1 l2 l3 l4 l5 l6 l7 : Option AV} {a0 : Int32} {a1 : Int32} {a2 : Int32} {j t : Nat} {L2 : List (Nat × AV)} {S : SS} : ev c 311 1664 [l0, l1, l2, l3, l4, l5, l6, l7] L2 [aI a2, aI a1, aI a0, aR (12, j, t)] S = ck (c 280 [aR (12, j, t), aI a0, aI a1, aI a2] S) (fun v S' => ev c 311 1667 [l0, l1, l2, l3, l4, l5, l6, l7] L2 (v.toList ++ []) S') := ev_call i311_1664 rfl
theorem i311_1667 : insAt 311 1667 = some (.istore 7, 2, (0, 0, 0, 0), 0) := rfl
theorem s311_1667 {c : Nat → List AV → SS → Option Out} {l0 l1 l2 l3 l4 l5 l6 l7 : Option AV} {x : Int32} {L2 : List (Nat × AV)} {St : List AV} {S : SS} : ev c 311 1667 [l0, l1, l2, l3, l4, l5, l6, l7] L2 (aI x :: St) S = ev c 311 1669 [l0, l1, l2, l3, l4, l5, l6, some (aI x)] (kil L2 7) St S := ev_go i311_1667 rfl
theorem i311_1669 : insAt 311 1669 = some (.aload_n 2, 1, (0, 0, 0, 0), 0) := rfl
theorem s311_1669 {c : Nat → List AV → SS → Option Out} {l0 l1 l3 l4 l5 l6 l7 : Option AV} {o : OId} {L2 : List (Nat × AV)} {St : List AV} {S : SS} : ev c 311 1669 [l0, l1, some (aR o), l3, l4, l5, l6, l7] L2 St S = ev c 311 1670 [l0, l1, some (aR o), l3, l4, l5, l6, l7] L2 (aR o :: St) S := ev_go i311_1669 rfl
theorem i311_1670 : insAt 311 1670 = some (.invokevirtual 149, 3, (215, 0, 2, 12), 441) := rfl
theorem s311_1670 {c : Nat → List AV → SS → Option Out} {l0 l1 l2 l3 l4 l5 l6 l7 : Option AV} {j t : Nat} {L2 : List (Nat × AV)} {S : SS} : ev c 311 1670 [l0, l1, l2, l3, l4, l5, l6, l7] L2 [aR (12, j, t)] S = ck (c 215 [aR (12, j, t)] S) (fun v S' => ev c 311 1673 [l0, l1, l2, l3, l4, l5, l6, l7] L2 (v.toList ++ []) S') := ev_call i311_1670 rfl
theorem i311_1673 : insAt 311 1673 = some (.iload 6, 2, (0, 0, 0, 0), 0) := rfl
theorem s311_1673 {c : Nat → List AV → SS → Option Out} {l0 l1 l2 l3 l4 l5 l7 : Option AV} {x : Int32} {L2 : List (Nat × AV)} {St : List AV} {S : SS} : ev c 311 1673 [l0, l1, l2, l3, l4, l5, some (aI x), l7] L2 St S = ev c 311 1675 [l0, l1, l2, l3, l4, l5, some (aI x), l7] L2 (aI x :: St) S := ev_go i311_1673 rfl
theorem i311_1675 : insAt 311 1675 = some (.if_icmp .eq 5, 3, (0, 0, 0, 0), 0) := rfl
theorem s311_1675 {c : Nat → List AV → SS → Option Out} {l0 l1 l2 l3 l4 l5 l6 l7 : Option AV} {x y : Int32} {L2 : List (Nat × AV)} {St : List AV} {S : SS} : ev c 311 1675 [l0, l1, l2, l3, l4, l5, l6, l7] L2 (aI y :: aI x :: St) S = if x = y then ev c 311 1680 [l0, l1, l2, l3, l4, l5, l6, l7] L2 St S else ev c 311 1678 [l0, l1, l2, l3, l4, l5, l6, l7] L2 St S := ev_br i311_1675 rfl
theorem i311_1678 : insAt 311 1678 = some (.iconst 0, 1, (0, 0, 0, 0), 0) := rfl
theorem s311_1678 {c : Nat → List AV → SS → Option Out} {l0 l1 l2 l3 l4 l5 l6 l7 : Option AV} {L2 : List (Nat × AV)} {St : List AV} {S : SS} : ev c 311 1678 [l0, l1, l2, l3, l4, l5, l6, l7] L2 St S = ev c 311 1679 [l0, l1, l2, l3, l4, l5, l6, l7] L2 (aI 0 :: St) S := ev_go i311_1678 rfl
theorem i311_1679 : insAt 311 1679 = some (.ireturn, 1, (0, 0, 0, 0), 0) := rfl
theorem s311_1679 {c : Nat → List AV → SS → Option Out} {l0 l1 l2 l3 l4 l5 l6 l7 : Option AV} {x : Int32} {L2 : List (Nat × AV)} {S : SS} : ev c 311 1679 [l0, l1, l2, l3, l4, l5, l6, l7] L2 [aI x] S = if x = 0 ∨ x = 1 then some (.inl (some (aI x)), S) else none := ev_rt i311_1679 rfl
theorem i311_1680 : insAt 311 1680 = some (.iload 6, 2, (0, 0, 0, 0), 0) := rfl
theorem s311_1680 {c : Nat → List AV → SS → Option Out} {l0 l1 l2 l3 l4 l5 l7 : Option AV} {x : Int32} {L2 : List (Nat × AV)} {St : List AV} {S : SS} : ev c 311 1680 [l0, l1, l2, l3, l4, l5, some (aI x), l7] L2 St S = ev c 311 1682 [l0, l1, l2, l3, l4, l5, some (aI x), l7] L2 (aI x :: St) S := ev_go i311_1680 rfl
theorem i311_1682 : insAt 311 1682 = some (.ifCond .ne 15, 3, (0, 0, 0, 0), 0) := rfl
theorem s311_1682 {c : Nat → List AV → SS → Option Out} {l0 l1 l2 l3 l4 l5 l6 l7 : Option AV} {x : Int32} {L2 : List (Nat × AV)} {St : List AV} {S : SS} : ev c 311 1682 [l0, l1, l2, l3, l4, l5, l6, l7] L2 (aI x :: St) S = if x = 0 then ev c 311 1685 [l0, l1, l2, l3, l4, l5, l6, l7] L2 St S else ev c 311 1697 [l0, l1, l2, l3, l4, l5, l6, l7] L2 St S := (ev_br i311_1682 rfl).trans (ite_not _ _ _)
theorem i311_1685 : insAt 311 1685 = some (.aload_n 3, 1, (0, 0, 0, 0), 0) := rfl
theorem s311_1685 {c : Nat → List AV → SS → Option Out} {l0 l1 l2 l4 l5 l6 l7 : Option AV} {o : OId} {L2 : List (Nat × AV)} {St : List AV} {S : SS} : ev c 311 1685 [l0, l1, l2, some (aR o), l4, l5, l6, l7] L2 St S = ev c 311 1686 [l0, l1, l2, some (aR o), l4, l5, l6, l7] L2 (aR o :: St) S := ev_go i311_1685 rfl
theorem i311_1686 : insAt 311 1686 = some (.iconst 0, 1, (0, 0, 0, 0), 0) := rfl
theorem s311_1686 {c : Nat → List AV → SS → Option Out} {l0 l1 l2 l3 l4 l5 l6 l7 : Option AV} {L2 : List (Nat × AV)} {St : List AV} {S : SS} : ev c 311 1686 [l0, l1, l2, l3, l4, l5, l6, l7] L2 St S = ev c 311 1687 [l0, l1, l2, l3, l4, l5, l6, l7] L2 (aI 0 :: St) S := ev_go i311_1686 rfl
theorem i311_1687 : insAt 311 1687 = some (.laload, 1, (0, 0, 0, 0), 0) := rfl
theorem s311_1687 {c : Nat → List AV → SS → Option Out} {l0 l1 l2 l3 l4 l5 l6 l7 : Option AV} {i : Int32} {o : OId} {L2 : List (Nat × AV)} {St : List AV} {S : SS} : ev c 311 1687 [l0, l1, l2, l3, l4, l5, l6, l7] L2 (aI i :: aR o :: St) S = kJ o i (ev c 311 1688 [l0, l1, l2, l3, l4, l5, l6, l7] L2 (aL (toL (S.2.1 o i.toNatClampNeg)) :: St) S) := ev_laload i311_1687
theorem i311_1688 : insAt 311 1688 = some (.iload 7, 2, (0, 0, 0, 0), 0) := rfl
theorem s311_1688 {c : Nat → List AV → SS → Option Out} {l0 l1 l2 l3 l4 l5 l6 : Option AV} {x : Int32} {L2 : List (Nat × AV)} {St : List AV} {S : SS} : ev c 311 1688 [l0, l1, l2, l3, l4, l5, l6, some (aI x)] L2 St S = ev c 311 1690 [l0, l1, l2, l3, l4, l5, l6, some (aI x)] L2 (aI x :: St) S := ev_go i311_1688 rfl
theorem i311_1690 : insAt 311 1690 = some (.i2l, 1, (0, 0, 0, 0), 0) := rfl
theorem s311_1690 {c : Nat → List AV → SS → Option Out} {l0 l1 l2 l3 l4 l5 l6 l7 : Option AV} {x : Int32} {L2 : List (Nat × AV)} {St : List AV} {S : SS} : ev c 311 1690 [l0, l1, l2, l3, l4, l5, l6, l7] L2 (aI x :: St) S = ev c 311 1691 [l0, l1, l2, l3, l4, l5, l6, l7] L2 (aL x.toInt64 :: St) S := ev_go i311_1690 rfl
theorem i311_1691 : insAt 311 1691 = some (.lcmp, 1, (0, 0, 0, 0), 0) := rfl
theorem s311_1691 {c : Nat → List AV → SS → Option Out} {l0 l1 l2 l3 l4 l5 l6 l7 : Option AV} {x y : Int64} {L2 : List (Nat × AV)} {St : List AV} {S : SS} : ev c 311 1691 [l0, l1, l2, l3, l4, l5, l6, l7] L2 (aL y :: aL x :: St) S = ev c 311 1692 [l0, l1, l2, l3, l4, l5, l6, l7] L2 (aI (if x < y then -1 else if x = y then 0 else 1) :: St) S := ev_go i311_1691 rfl
theorem i311_1692 : insAt 311 1692 = some (.ifCond .eq 5, 3, (0, 0, 0, 0), 0) := rfl
theorem s311_1692 {c : Nat → List AV → SS → Option Out} {l0 l1 l2 l3 l4 l5 l6 l7 : Option AV} {x : Int32} {L2 : List (Nat × AV)} {St : List AV} {S : SS} : ev c 311 1692 [l0, l1, l2, l3, l4, l5, l6, l7] L2 (aI x :: St) S = if x = 0 then ev c 311 1697 [l0, l1, l2, l3, l4, l5, l6, l7] L2 St S else ev c 311 1695 [l0, l1, l2, l3, l4, l5, l6, l7] L2 St S := ev_br i311_1692 rfl
theorem i311_1695 : insAt 311 1695 = some (.iconst 0, 1, (0, 0, 0, 0), 0) := rfl
theorem s311_1695 {c : Nat → List AV → SS → Option Out} {l0 l1 l2 l3 l4 l5 l6 l7 : Option AV} {L2 : List (Nat × AV)} {St : List AV} {S : SS} : ev c 311 1695 [l0, l1, l2, l3, l4, l5, l6, l7] L2 St S = ev c 311 1696 [l0, l1, l2, l3, l4, l5, l6, l7] L2 (aI 0 :: St) S := ev_go i311_1695 rfl
theorem i311_1696 : insAt 311 1696 = some (.ireturn, 1, (0, 0, 0, 0), 0) := rfl
theorem s311_1696 {c : Nat → List AV → SS → Option Out} {l0 l1 l2 l3 l4 l5 l6 l7 : Option AV} {x : Int32} {L2 : List (Nat × AV)} {S : SS} : ev c 311 1696 [l0, l1, l2, l3, l4, l5, l6, l7] L2 [aI x] S = if x = 0 ∨ x = 1 then some (.inl (some (aI x)), S) else none := ev_rt i311_1696 rfl
theorem i311_1697 : insAt 311 1697 = some (.goto 1102, 3, (0, 0, 0, 0), 0) := rfl
theorem s311_1697 {c : Nat → List AV → SS → Option Out} {l0 l1 l2 l3 l4 l5 l6 l7 : Option AV} {L2 : List (Nat × AV)} {St : List AV} {S : SS} : ev c 311 1697 [l0, l1, l2, l3, l4, l5, l6, l7] L2 St S = ev c 311 2799 [l0, l1, l2, l3, l4, l5, l6, l7] L2 St S := ev_go i311_1697 rfl
theorem i311_1700 : insAt 311 1700 = some (.aload_n 1, 1, (0, 0, 0, 0), 0) := rfl
theorem s311_1700 {c : Nat → List AV → SS → Option Out} {l0 l2 l3 l4 l5 l6 l7 : Option AV} {o : OId} {L2 : List (Nat × AV)} {St : List AV} {S : SS} : ev c 311 1700 [l0, some (aR o), l2, l3, l4, l5, l6, l7] L2 St S = ev c 311 1701 [l0, some (aR o), l2, l3, l4, l5, l6, l7] L2 (aR o :: St) S := ev_go i311_1700 rfl
theorem i311_1701 : insAt 311 1701 = some (.aload_n 0, 1, (0, 0, 0, 0), 0) := rfl
theorem s311_1701 {c : Nat → List AV → SS → Option Out} {l1 l2 l3 l4 l5 l6 l7 : Option AV} {o : OId} {L2 : List (Nat × AV)} {St : List AV} {S : SS} : ev c 311 1701 [some (aR o), l1, l2, l3, l4, l5, l6, l7] L2 St S = ev c 311 1702 [some (aR o), l1, l2, l3, l4, l5, l6, l7] L2 (aR o :: St) S := ev_go i311_1701 rfl
theorem i311_1702 : insAt 311 1702 = some (.iload 5, 2, (0, 0, 0, 0), 0) := rfl
theorem s311_1702 {c : Nat → List AV → SS → Option Out} {l0 l1 l2 l3 l4 l6 l7 : Option AV} {x : Int32} {L2 : List (Nat × AV)} {St : List AV} {S : SS} : ev c 311 1702 [l0, l1, l2, l3, l4, some (aI x), l6, l7] L2 St S = ev c 311 1704 [l0, l1, l2, l3, l4, some (aI x), l6, l7] L2 (aI x :: St) S := ev_go i311_1702 rfl
theorem i311_1704 : insAt 311 1704 = some (.iconst 1, 1, (0, 0, 0, 0), 0) := rfl
theorem s311_1704 {c : Nat → List AV → SS → Option Out} {l0 l1 l2 l3 l4 l5 l6 l7 : Option AV} {L2 : List (Nat × AV)} {St : List AV} {S : SS} : ev c 311 1704 [l0, l1, l2, l3, l4, l5, l6, l7] L2 St S = ev c 311 1705 [l0, l1, l2, l3, l4, l5, l6, l7] L2 (aI 1 :: St) S := ev_go i311_1704 rfl
theorem i311_1705 : insAt 311 1705 = some (.iadd, 1, (0, 0, 0, 0), 0) := rfl
theorem s311_1705 {c : Nat → List AV → SS → Option Out} {l0 l1 l2 l3 l4 l5 l6 l7 : Option AV} {x y : Int32} {L2 : List (Nat × AV)} {St : List AV} {S : SS} : ev c 311 1705 [l0, l1, l2, l3, l4, l5, l6, l7] L2 (aI y :: aI x :: St) S = ev c 311 1706 [l0, l1, l2, l3, l4, l5, l6, l7] L2 (aI (x + y) :: St) S := ev_go i311_1705 rfl
theorem i311_1706 : insAt 311 1706 = some (.iaload, 1, (0, 0, 0, 0), 0) := rfl
theorem s311_1706 {c : Nat → List AV → SS → Option Out} {l0 l1 l2 l3 l4 l5 l6 l7 : Option AV} {i : Int32} {o : OId} {L2 : List (Nat × AV)} {St : List AV} {S : SS} : ev c 311 1706 [l0, l1, l2, l3, l4, l5, l6, l7] L2 (aI i :: aR o :: St) S = kI o i (ev c 311 1707 [l0, l1, l2, l3, l4, l5, l6, l7] L2 (aI (agI S o i.toNatClampNeg) :: St) S) := ev_iaload i311_1706
theorem i311_1707 : insAt 311 1707 = some (.aload_n 0, 1, (0, 0, 0, 0), 0) := rfl
theorem s311_1707 {c : Nat → List AV → SS → Option Out} {l1 l2 l3 l4 l5 l6 l7 : Option AV} {o : OId} {L2 : List (Nat × AV)} {St : List AV} {S : SS} : ev c 311 1707 [some (aR o), l1, l2, l3, l4, l5, l6, l7] L2 St S = ev c 311 1708 [some (aR o), l1, l2, l3, l4, l5, l6, l7] L2 (aR o :: St) S := ev_go i311_1707 rfl
theorem i311_1708 : insAt 311 1708 = some (.iload 5, 2, (0, 0, 0, 0), 0) := rfl
theorem s311_1708 {c : Nat → List AV → SS → Option Out} {l0 l1 l2 l3 l4 l6 l7 : Option AV} {x : Int32} {L2 : List (Nat × AV)} {St : List AV} {S : SS} : ev c 311 1708 [l0, l1, l2, l3, l4, some (aI x), l6, l7] L2 St S = ev c 311 1710 [l0, l1, l2, l3, l4, some (aI x), l6, l7] L2 (aI x :: St) S := ev_go i311_1708 rfl
theorem i311_1710 : insAt 311 1710 = some (.iconst 2, 1, (0, 0, 0, 0), 0) := rfl
theorem s311_1710 {c : Nat → List AV → SS → Option Out} {l0 l1 l2 l3 l4 l5 l6 l7 : Option AV} {L2 : List (Nat × AV)} {St : List AV} {S : SS} : ev c 311 1710 [l0, l1, l2, l3, l4, l5, l6, l7] L2 St S = ev c 311 1711 [l0, l1, l2, l3, l4, l5, l6, l7] L2 (aI 2 :: St) S := ev_go i311_1710 rfl
theorem i311_1711 : insAt 311 1711 = some (.iadd, 1, (0, 0, 0, 0), 0) := rfl
theorem s311_1711 {c : Nat → List AV → SS → Option Out} {l0 l1 l2 l3 l4 l5 l6 l7 : Option AV} {x y : Int32} {L2 : List (Nat × AV)} {St : List AV} {S : SS} : ev c 311 1711 [l0, l1, l2, l3, l4, l5, l6, l7] L2 (aI y :: aI x :: St) S = ev c 311 1712 [l0, l1, l2, l3, l4, l5, l6, l7] L2 (aI (x + y) :: St) S := ev_go i311_1711 rfl
theorem i311_1712 : insAt 311 1712 = some (.iaload, 1, (0, 0, 0, 0), 0) := rfl
theorem s311_1712 {c : Nat → List AV → SS → Option Out} {l0 l1 l2 l3 l4 l5 l6 l7 : Option AV} {i : Int32} {o : OId} {L2 : List (Nat × AV)} {St : List AV} {S : SS} : ev c 311 1712 [l0, l1, l2, l3, l4, l5, l6, l7] L2 (aI i :: aR o :: St) S = kI o i (ev c 311 1713 [l0, l1, l2, l3, l4, l5, l6, l7] L2 (aI (agI S o i.toNatClampNeg) :: St) S) := ev_iaload i311_1712
theorem i311_1713 : insAt 311 1713 = some (.aload_n 0, 1, (0, 0, 0, 0), 0) := rfl
theorem s311_1713 {c : Nat → List AV → SS → Option Out} {l1 l2 l3 l4 l5 l6 l7 : Option AV} {o : OId} {L2 : List (Nat × AV)} {St : List AV} {S : SS} : ev c 311 1713 [some (aR o), l1, l2, l3, l4, l5, l6, l7] L2 St S = ev c 311 1714 [some (aR o), l1, l2, l3, l4, l5, l6, l7] L2 (aR o :: St) S := ev_go i311_1713 rfl
theorem i311_1714 : insAt 311 1714 = some (.iload 5, 2, (0, 0, 0, 0), 0) := rfl
theorem s311_1714 {c : Nat → List AV → SS → Option Out} {l0 l1 l2 l3 l4 l6 l7 : Option AV} {x : Int32} {L2 : List (Nat × AV)} {St : List AV} {S : SS} : ev c 311 1714 [l0, l1, l2, l3, l4, some (aI x), l6, l7] L2 St S = ev c 311 1716 [l0, l1, l2, l3, l4, some (aI x), l6, l7] L2 (aI x :: St) S := ev_go i311_1714 rfl
theorem i311_1716 : insAt 311 1716 = some (.iconst 3, 1, (0, 0, 0, 0), 0) := rfl
theorem s311_1716 {c : Nat → List AV → SS → Option Out} {l0 l1 l2 l3 l4 l5 l6 l7 : Option AV} {L2 : List (Nat × AV)} {St : List AV} {S : SS} : ev c 311 1716 [l0, l1, l2, l3, l4, l5, l6, l7] L2 St S = ev c 311 1717 [l0, l1, l2, l3, l4, l5, l6, l7] L2 (aI 3 :: St) S := ev_go i311_1716 rfl
theorem i311_1717 : insAt 311 1717 = some (.iadd, 1, (0, 0, 0, 0), 0) := rfl
theorem s311_1717 {c : Nat → List AV → SS → Option Out} {l0 l1 l2 l3 l4 l5 l6 l7 : Option AV} {x y : Int32} {L2 : List (Nat × AV)} {St : List AV} {S : SS} : ev c 311 1717 [l0, l1, l2, l3, l4, l5, l6, l7] L2 (aI y :: aI x :: St) S = ev c 311 1718 [l0, l1, l2, l3, l4, l5, l6, l7] L2 (aI (x + y) :: St) S := ev_go i311_1717 rfl
theorem i311_1718 : insAt 311 1718 = some (.iaload, 1, (0, 0, 0, 0), 0) := rfl
theorem s311_1718 {c : Nat → List AV → SS → Option Out} {l0 l1 l2 l3 l4 l5 l6 l7 : Option AV} {i : Int32} {o : OId} {L2 : List (Nat × AV)} {St : List AV} {S : SS} : ev c 311 1718 [l0, l1, l2, l3, l4, l5, l6, l7] L2 (aI i :: aR o :: St) S = kI o i (ev c 311 1719 [l0, l1, l2, l3, l4, l5, l6, l7] L2 (aI (agI S o i.toNatClampNeg) :: St) S) := ev_iaload i311_1718
theorem i311_1719 : insAt 311 1719 = some (.aload_n 3, 1, (0, 0, 0, 0), 0) := rfl
theorem s311_1719 {c : Nat → List AV → SS → Option Out} {l0 l1 l2 l4 l5 l6 l7 : Option AV} {o : OId} {L2 : List (Nat × AV)} {St : List AV} {S : SS} : ev c 311 1719 [l0, l1, l2, some (aR o), l4, l5, l6, l7] L2 St S = ev c 311 1720 [l0, l1, l2, some (aR o), l4, l5, l6, l7] L2 (aR o :: St) S := ev_go i311_1719 rfl
theorem i311_1720 : insAt 311 1720 = some (.invokestatic 247, 3, (131, 5, 0, 0), 498) := rfl
theorem s311_1720 {c : Nat → List AV → SS → Option Out} {l0 l1 l2 l3 l4 l5 l6 l7 : Option AV} {a0 : OId} {a1 : Int32} {a2 : Int32} {a3 : Int32} {a4 : OId} {L2 : List (Nat × AV)} {S : SS} : ev c 311 1720 [l0, l1, l2, l3, l4, l5, l6, l7] L2 [aR a4, aI a3, aI a2, aI a1, aR a0] S = ck (c 131 [aR a0, aI a1, aI a2, aI a3, aR a4] S) (fun v S' => ev c 311 1723 [l0, l1, l2, l3, l4, l5, l6, l7] L2 (v.toList ++ []) S') := ev_call i311_1720 rfl
theorem i311_1723 : insAt 311 1723 = some (.istore 6, 2, (0, 0, 0, 0), 0) := rfl
theorem s311_1723 {c : Nat → List AV → SS → Option Out} {l0 l1 l2 l3 l4 l5 l6 l7 : Option AV} {x : Int32} {L2 : List (Nat × AV)} {St : List AV} {S : SS} : ev c 311 1723 [l0, l1, l2, l3, l4, l5, l6, l7] L2 (aI x :: St) S = ev c 311 1725 [l0, l1, l2, l3, l4, l5, some (aI x), l7] (kil L2 6) St S := ev_go i311_1723 rfl
theorem i311_1725 : insAt 311 1725 = some (.aload_n 2, 1, (0, 0, 0, 0), 0) := rfl
theorem s311_1725 {c : Nat → List AV → SS → Option Out} {l0 l1 l3 l4 l5 l6 l7 : Option AV} {o : OId} {L2 : List (Nat × AV)} {St : List AV} {S : SS} : ev c 311 1725 [l0, l1, some (aR o), l3, l4, l5, l6, l7] L2 St S = ev c 311 1726 [l0, l1, some (aR o), l3, l4, l5, l6, l7] L2 (aR o :: St) S := ev_go i311_1725 rfl
theorem i311_1726 : insAt 311 1726 = some (.aload_n 0, 1, (0, 0, 0, 0), 0) := rfl
theorem s311_1726 {c : Nat → List AV → SS → Option Out} {l1 l2 l3 l4 l5 l6 l7 : Option AV} {o : OId} {L2 : List (Nat × AV)} {St : List AV} {S : SS} : ev c 311 1726 [some (aR o), l1, l2, l3, l4, l5, l6, l7] L2 St S = ev c 311 1727 [some (aR o), l1, l2, l3, l4, l5, l6, l7] L2 (aR o :: St) S := ev_go i311_1726 rfl
theorem i311_1727 : insAt 311 1727 = some (.iload 5, 2, (0, 0, 0, 0), 0) := rfl
theorem s311_1727 {c : Nat → List AV → SS → Option Out} {l0 l1 l2 l3 l4 l6 l7 : Option AV} {x : Int32} {L2 : List (Nat × AV)} {St : List AV} {S : SS} : ev c 311 1727 [l0, l1, l2, l3, l4, some (aI x), l6, l7] L2 St S = ev c 311 1729 [l0, l1, l2, l3, l4, some (aI x), l6, l7] L2 (aI x :: St) S := ev_go i311_1727 rfl
theorem i311_1729 : insAt 311 1729 = some (.iconst 1, 1, (0, 0, 0, 0), 0) := rfl
theorem s311_1729 {c : Nat → List AV → SS → Option Out} {l0 l1 l2 l3 l4 l5 l6 l7 : Option AV} {L2 : List (Nat × AV)} {St : List AV} {S : SS} : ev c 311 1729 [l0, l1, l2, l3, l4, l5, l6, l7] L2 St S = ev c 311 1730 [l0, l1, l2, l3, l4, l5, l6, l7] L2 (aI 1 :: St) S := ev_go i311_1729 rfl
theorem i311_1730 : insAt 311 1730 = some (.iadd, 1, (0, 0, 0, 0), 0) := rfl
theorem s311_1730 {c : Nat → List AV → SS → Option Out} {l0 l1 l2 l3 l4 l5 l6 l7 : Option AV} {x y : Int32} {L2 : List (Nat × AV)} {St : List AV} {S : SS} : ev c 311 1730 [l0, l1, l2, l3, l4, l5, l6, l7] L2 (aI y :: aI x :: St) S = ev c 311 1731 [l0, l1, l2, l3, l4, l5, l6, l7] L2 (aI (x + y) :: St) S := ev_go i311_1730 rfl
theorem i311_1731 : insAt 311 1731 = some (.iaload, 1, (0, 0, 0, 0), 0) := rfl
theorem s311_1731 {c : Nat → List AV → SS → Option Out} {l0 l1 l2 l3 l4 l5 l6 l7 : Option AV} {i : Int32} {o : OId} {L2 : List (Nat × AV)} {St : List AV} {S : SS} : ev c 311 1731 [l0, l1, l2, l3, l4, l5, l6, l7] L2 (aI i :: aR o :: St) S = kI o i (ev c 311 1732 [l0, l1, l2, l3, l4, l5, l6, l7] L2 (aI (agI S o i.toNatClampNeg) :: St) S) := ev_iaload i311_1731
theorem i311_1732 : insAt 311 1732 = some (.aload_n 0, 1, (0, 0, 0, 0), 0) := rfl
theorem s311_1732 {c : Nat → List AV → SS → Option Out} {l1 l2 l3 l4 l5 l6 l7 : Option AV} {o : OId} {L2 : List (Nat × AV)} {St : List AV} {S : SS} : ev c 311 1732 [some (aR o), l1, l2, l3, l4, l5, l6, l7] L2 St S = ev c 311 1733 [some (aR o), l1, l2, l3, l4, l5, l6, l7] L2 (aR o :: St) S := ev_go i311_1732 rfl
theorem i311_1733 : insAt 311 1733 = some (.iload 5, 2, (0, 0, 0, 0), 0) := rfl
theorem s311_1733 {c : Nat → List AV → SS → Option Out} {l0 l1 l2 l3 l4 l6 l7 : Option AV} {x : Int32} {L2 : List (Nat × AV)} {St : List AV} {S : SS} : ev c 311 1733 [l0, l1, l2, l3, l4, some (aI x), l6, l7] L2 St S = ev c 311 1735 [l0, l1, l2, l3, l4, some (aI x), l6, l7] L2 (aI x :: St) S := ev_go i311_1733 rfl
theorem i311_1735 : insAt 311 1735 = some (.iconst 2, 1, (0, 0, 0, 0), 0) := rfl
theorem s311_1735 {c : Nat → List AV → SS → Option Out} {l0 l1 l2 l3 l4 l5 l6 l7 : Option AV} {L2 : List (Nat × AV)} {St : List AV} {S : SS} : ev c 311 1735 [l0, l1, l2, l3, l4, l5, l6, l7] L2 St S = ev c 311 1736 [l0, l1, l2, l3, l4, l5, l6, l7] L2 (aI 2 :: St) S := ev_go i311_1735 rfl
theorem i311_1736 : insAt 311 1736 = some (.iadd, 1, (0, 0, 0, 0), 0) := rfl
theorem s311_1736 {c : Nat → List AV → SS → Option Out} {l0 l1 l2 l3 l4 l5 l6 l7 : Option AV} {x y : Int32} {L2 : List (Nat × AV)} {St : List AV} {S : SS} : ev c 311 1736 [l0, l1, l2, l3, l4, l5, l6, l7] L2 (aI y :: aI x :: St) S = ev c 311 1737 [l0, l1, l2, l3, l4, l5, l6, l7] L2 (aI (x + y) :: St) S := ev_go i311_1736 rfl
theorem i311_1737 : insAt 311 1737 = some (.iaload, 1, (0, 0, 0, 0), 0) := rfl
theorem s311_1737 {c : Nat → List AV → SS → Option Out} {l0 l1 l2 l3 l4 l5 l6 l7 : Option AV} {i : Int32} {o : OId} {L2 : List (Nat × AV)} {St : List AV} {S : SS} : ev c 311 1737 [l0, l1, l2, l3, l4, l5, l6, l7] L2 (aI i :: aR o :: St) S = kI o i (ev c 311 1738 [l0, l1, l2, l3, l4, l5, l6, l7] L2 (aI (agI S o i.toNatClampNeg) :: St) S) := ev_iaload i311_1737
theorem i311_1738 : insAt 311 1738 = some (.aload_n 0, 1, (0, 0, 0, 0), 0) := rfl
theorem s311_1738 {c : Nat → List AV → SS → Option Out} {l1 l2 l3 l4 l5 l6 l7 : Option AV} {o : OId} {L2 : List (Nat × AV)} {St : List AV} {S : SS} : ev c 311 1738 [some (aR o), l1, l2, l3, l4, l5, l6, l7] L2 St S = ev c 311 1739 [some (aR o), l1, l2, l3, l4, l5, l6, l7] L2 (aR o :: St) S := ev_go i311_1738 rfl
theorem i311_1739 : insAt 311 1739 = some (.iload 5, 2, (0, 0, 0, 0), 0) := rfl
theorem s311_1739 {c : Nat → List AV → SS → Option Out} {l0 l1 l2 l3 l4 l6 l7 : Option AV} {x : Int32} {L2 : List (Nat × AV)} {St : List AV} {S : SS} : ev c 311 1739 [l0, l1, l2, l3, l4, some (aI x), l6, l7] L2 St S = ev c 311 1741 [l0, l1, l2, l3, l4, some (aI x), l6, l7] L2 (aI x :: St) S := ev_go i311_1739 rfl
theorem i311_1741 : insAt 311 1741 = some (.iconst 3, 1, (0, 0, 0, 0), 0) := rfl
theorem s311_1741 {c : Nat → List AV → SS → Option Out} {l0 l1 l2 l3 l4 l5 l6 l7 : Option AV} {L2 : List (Nat × AV)} {St : List AV} {S : SS} : ev c 311 1741 [l0, l1, l2, l3, l4, l5, l6, l7] L2 St S = ev c 311 1742 [l0, l1, l2, l3, l4, l5, l6, l7] L2 (aI 3 :: St) S := ev_go i311_1741 rfl
theorem i311_1742 : insAt 311 1742 = some (.iadd, 1, (0, 0, 0, 0), 0) := rfl
theorem s311_1742 {c : Nat → List AV → SS → Option Out} {l0 l1 l2 l3 l4 l5 l6 l7 : Option AV} {x y : Int32} {L2 : List (Nat × AV)} {St : List AV} {S : SS} : ev c 311 1742 [l0, l1, l2, l3, l4, l5, l6, l7] L2 (aI y :: aI x :: St) S = ev c 311 1743 [l0, l1, l2, l3, l4, l5, l6, l7] L2 (aI (x + y) :: St) S := ev_go i311_1742 rfl
theorem i311_1743 : insAt 311 1743 = some (.iaload, 1, (0, 0, 0, 0), 0) := rfl
theorem s311_1743 {c : Nat → List AV → SS → Option Out} {l0 l1 l2 l3 l4 l5 l6 l7 : Option AV} {i : Int32} {o : OId} {L2 : List (Nat × AV)} {St : List AV} {S : SS} : ev c 311 1743 [l0, l1, l2, l3, l4, l5, l6, l7] L2 (aI i :: aR o :: St) S = kI o i (ev c 311 1744 [l0, l1, l2, l3, l4, l5, l6, l7] L2 (aI (agI S o i.toNatClampNeg) :: St) S) := ev_iaload i311_1743
theorem i311_1744 : insAt 311 1744 = some (.invokevirtual 249, 3, (281, 3, 2, 12), 499) := rfl
theorem s311_1744 {c : Nat → List AV → SS → Option Out} {l0 l1 l2 l3 l4 l5 l6 l7 : Option AV} {a0 : Int32} {a1 : Int32} {a2 : Int32} {j t : Nat} {L2 : List (Nat × AV)} {S : SS} : ev c 311 1744 [l0, l1, l2, l3, l4, l5, l6, l7] L2 [aI a2, aI a1, aI a0, aR (12, j, t)] S = ck (c 281 [aR (12, j, t), aI a0, aI a1, aI a2] S) (fun v S' => ev c 311 1747 [l0, l1, l2, l3, l4, l5, l6, l7] L2 (v.toList ++ []) S') := ev_call i311_1744 rfl
theorem i311_1747 : insAt 311 1747 = some (.istore 7, 2, (0, 0, 0, 0), 0) := rfl
theorem s311_1747 {c : Nat → List AV → SS → Option Out} {l0 l1 l2 l3 l4 l5 l6 l7 : Option AV} {x : Int32} {L2 : List (Nat × AV)} {St : List AV} {S : SS} : ev c 311 1747 [l0, l1, l2, l3, l4, l5, l6, l7] L2 (aI x :: St) S = ev c 311 1749 [l0, l1, l2, l3, l4, l5, l6, some (aI x)] (kil L2 7) St S := ev_go i311_1747 rfl
theorem i311_1749 : insAt 311 1749 = some (.aload_n 2, 1, (0, 0, 0, 0), 0) := rfl
theorem s311_1749 {c : Nat → List AV → SS → Option Out} {l0 l1 l3 l4 l5 l6 l7 : Option AV} {o : OId} {L2 : List (Nat × AV)} {St : List AV} {S : SS} : ev c 311 1749 [l0, l1, some (aR o), l3, l4, l5, l6, l7] L2 St S = ev c 311 1750 [l0, l1, some (aR o), l3, l4, l5, l6, l7] L2 (aR o :: St) S := ev_go i311_1749 rfl
theorem i311_1750 : insAt 311 1750 = some (.invokevirtual 149, 3, (215, 0, 2, 12), 441) := rfl
theorem s311_1750 {c : Nat → List AV → SS → Option Out} {l0 l1 l2 l3 l4 l5 l6 l7 : Option AV} {j t : Nat} {L2 : List (Nat × AV)} {S : SS} : ev c 311 1750 [l0, l1, l2, l3, l4, l5, l6, l7] L2 [aR (12, j, t)] S = ck (c 215 [aR (12, j, t)] S) (fun v S' => ev c 311 1753 [l0, l1, l2, l3, l4, l5, l6, l7] L2 (v.toList ++ []) S') := ev_call i311_1750 rfl
theorem i311_1753 : insAt 311 1753 = some (.iload 6, 2, (0, 0, 0, 0), 0) := rfl
theorem s311_1753 {c : Nat → List AV → SS → Option Out} {l0 l1 l2 l3 l4 l5 l7 : Option AV} {x : Int32} {L2 : List (Nat × AV)} {St : List AV} {S : SS} : ev c 311 1753 [l0, l1, l2, l3, l4, l5, some (aI x), l7] L2 St S = ev c 311 1755 [l0, l1, l2, l3, l4, l5, some (aI x), l7] L2 (aI x :: St) S := ev_go i311_1753 rfl
theorem i311_1755 : insAt 311 1755 = some (.if_icmp .eq 5, 3, (0, 0, 0, 0), 0) := rfl
theorem s311_1755 {c : Nat → List AV → SS → Option Out} {l0 l1 l2 l3 l4 l5 l6 l7 : Option AV} {x y : Int32} {L2 : List (Nat × AV)} {St : List AV} {S : SS} : ev c 311 1755 [l0, l1, l2, l3, l4, l5, l6, l7] L2 (aI y :: aI x :: St) S = if x = y then ev c 311 1760 [l0, l1, l2, l3, l4, l5, l6, l7] L2 St S else ev c 311 1758 [l0, l1, l2, l3, l4, l5, l6, l7] L2 St S := ev_br i311_1755 rfl
theorem i311_1758 : insAt 311 1758 = some (.iconst 0, 1, (0, 0, 0, 0), 0) := rfl
theorem s311_1758 {c : Nat → List AV → SS → Option Out} {l0 l1 l2 l3 l4 l5 l6 l7 : Option AV} {L2 : List (Nat × AV)} {St : List AV} {S : SS} : ev c 311 1758 [l0, l1, l2, l3, l4, l5, l6, l7] L2 St S = ev c 311 1759 [l0, l1, l2, l3, l4, l5, l6, l7] L2 (aI 0 :: St) S := ev_go i311_1758 rfl
theorem i311_1759 : insAt 311 1759 = some (.ireturn, 1, (0, 0, 0, 0), 0) := rfl
theorem s311_1759 {c : Nat → List AV → SS → Option Out} {l0 l1 l2 l3 l4 l5 l6 l7 : Option AV} {x : Int32} {L2 : List (Nat × AV)} {S : SS} : ev c 311 1759 [l0, l1, l2, l3, l4, l5, l6, l7] L2 [aI x] S = if x = 0 ∨ x = 1 then some (.inl (some (aI x)), S) else none := ev_rt i311_1759 rfl
theorem i311_1760 : insAt 311 1760 = some (.iload 6, 2, (0, 0, 0, 0), 0) := rfl
theorem s311_1760 {c : Nat → List AV → SS → Option Out} {l0 l1 l2 l3 l4 l5 l7 : Option AV} {x : Int32} {L2 : List (Nat × AV)} {St : List AV} {S : SS} : ev c 311 1760 [l0, l1, l2, l3, l4, l5, some (aI x), l7] L2 St S = ev c 311 1762 [l0, l1, l2, l3, l4, l5, some (aI x), l7] L2 (aI x :: St) S := ev_go i311_1760 rfl
theorem i311_1762 : insAt 311 1762 = some (.ifCond .ne 15, 3, (0, 0, 0, 0), 0) := rfl
theorem s311_1762 {c : Nat → List AV → SS → Option Out} {l0 l1 l2 l3 l4 l5 l6 l7 : Option AV} {x : Int32} {L2 : List (Nat × AV)} {St : List AV} {S : SS} : ev c 311 1762 [l0, l1, l2, l3, l4, l5, l6, l7] L2 (aI x :: St) S = if x = 0 then ev c 311 1765 [l0, l1, l2, l3, l4, l5, l6, l7] L2 St S else ev c 311 1777 [l0, l1, l2, l3, l4, l5, l6, l7] L2 St S := (ev_br i311_1762 rfl).trans (ite_not _ _ _)
theorem i311_1765 : insAt 311 1765 = some (.aload_n 3, 1, (0, 0, 0, 0), 0) := rfl
theorem s311_1765 {c : Nat → List AV → SS → Option Out} {l0 l1 l2 l4 l5 l6 l7 : Option AV} {o : OId} {L2 : List (Nat × AV)} {St : List AV} {S : SS} : ev c 311 1765 [l0, l1, l2, some (aR o), l4, l5, l6, l7] L2 St S = ev c 311 1766 [l0, l1, l2, some (aR o), l4, l5, l6, l7] L2 (aR o :: St) S := ev_go i311_1765 rfl
theorem i311_1766 : insAt 311 1766 = some (.iconst 0, 1, (0, 0, 0, 0), 0) := rfl
theorem s311_1766 {c : Nat → List AV → SS → Option Out} {l0 l1 l2 l3 l4 l5 l6 l7 : Option AV} {L2 : List (Nat × AV)} {St : List AV} {S : SS} : ev c 311 1766 [l0, l1, l2, l3, l4, l5, l6, l7] L2 St S = ev c 311 1767 [l0, l1, l2, l3, l4, l5, l6, l7] L2 (aI 0 :: St) S := ev_go i311_1766 rfl
theorem i311_1767 : insAt 311 1767 = some (.laload, 1, (0, 0, 0, 0), 0) := rfl
theorem s311_1767 {c : Nat → List AV → SS → Option Out} {l0 l1 l2 l3 l4 l5 l6 l7 : Option AV} {i : Int32} {o : OId} {L2 : List (Nat × AV)} {St : List AV} {S : SS} : ev c 311 1767 [l0, l1, l2, l3, l4, l5, l6, l7] L2 (aI i :: aR o :: St) S = kJ o i (ev c 311 1768 [l0, l1, l2, l3, l4, l5, l6, l7] L2 (aL (toL (S.2.1 o i.toNatClampNeg)) :: St) S) := ev_laload i311_1767
theorem i311_1768 : insAt 311 1768 = some (.iload 7, 2, (0, 0, 0, 0), 0) := rfl
theorem s311_1768 {c : Nat → List AV → SS → Option Out} {l0 l1 l2 l3 l4 l5 l6 : Option AV} {x : Int32} {L2 : List (Nat × AV)} {St : List AV} {S : SS} : ev c 311 1768 [l0, l1, l2, l3, l4, l5, l6, some (aI x)] L2 St S = ev c 311 1770 [l0, l1, l2, l3, l4, l5, l6, some (aI x)] L2 (aI x :: St) S := ev_go i311_1768 rfl
theorem i311_1770 : insAt 311 1770 = some (.i2l, 1, (0, 0, 0, 0), 0) := rfl
theorem s311_1770 {c : Nat → List AV → SS → Option Out} {l0 l1 l2 l3 l4 l5 l6 l7 : Option AV} {x : Int32} {L2 : List (Nat × AV)} {St : List AV} {S : SS} : ev c 311 1770 [l0, l1, l2, l3, l4, l5, l6, l7] L2 (aI x :: St) S = ev c 311 1771 [l0, l1, l2, l3, l4, l5, l6, l7] L2 (aL x.toInt64 :: St) S := ev_go i311_1770 rfl
theorem i311_1771 : insAt 311 1771 = some (.lcmp, 1, (0, 0, 0, 0), 0) := rfl
theorem s311_1771 {c : Nat → List AV → SS → Option Out} {l0 l1 l2 l3 l4 l5 l6 l7 : Option AV} {x y : Int64} {L2 : List (Nat × AV)} {St : List AV} {S : SS} : ev c 311 1771 [l0, l1, l2, l3, l4, l5, l6, l7] L2 (aL y :: aL x :: St) S = ev c 311 1772 [l0, l1, l2, l3, l4, l5, l6, l7] L2 (aI (if x < y then -1 else if x = y then 0 else 1) :: St) S := ev_go i311_1771 rfl
theorem i311_1772 : insAt 311 1772 = some (.ifCond .eq 5, 3, (0, 0, 0, 0), 0) := rfl
theorem s311_1772 {c : Nat → List AV → SS → Option Out} {l0 l1 l2 l3 l4 l5 l6 l7 : Option AV} {x : Int32} {L2 : List (Nat × AV)} {St : List AV} {S : SS} : ev c 311 1772 [l0, l1, l2, l3, l4, l5, l6, l7] L2 (aI x :: St) S = if x = 0 then ev c 311 1777 [l0, l1, l2, l3, l4, l5, l6, l7] L2 St S else ev c 311 1775 [l0, l1, l2, l3, l4, l5, l6, l7] L2 St S := ev_br i311_1772 rfl
theorem i311_1775 : insAt 311 1775 = some (.iconst 0, 1, (0, 0, 0, 0), 0) := rfl
theorem s311_1775 {c : Nat → List AV → SS → Option Out} {l0 l1 l2 l3 l4 l5 l6 l7 : Option AV} {L2 : List (Nat × AV)} {St : List AV} {S : SS} : ev c 311 1775 [l0, l1, l2, l3, l4, l5, l6, l7] L2 St S = ev c 311 1776 [l0, l1, l2, l3, l4, l5, l6, l7] L2 (aI 0 :: St) S := ev_go i311_1775 rfl
theorem i311_1776 : insAt 311 1776 = some (.ireturn, 1, (0, 0, 0, 0), 0) := rfl
theorem s311_1776 {c : Nat → List AV → SS → Option Out} {l0 l1 l2 l3 l4 l5 l6 l7 : Option AV} {x : Int32} {L2 : List (Nat × AV)} {S : SS} : ev c 311 1776 [l0, l1, l2, l3, l4, l5, l6, l7] L2 [aI x] S = if x = 0 ∨ x = 1 then some (.inl (some (aI x)), S) else none := ev_rt i311_1776 rfl
theorem i311_1777 : insAt 311 1777 = some (.goto 1022, 3, (0, 0, 0, 0), 0) := rfl
theorem s311_1777 {c : Nat → List AV → SS → Option Out} {l0 l1 l2 l3 l4 l5 l6 l7 : Option AV} {L2 : List (Nat × AV)} {St : List AV} {S : SS} : ev c 311 1777 [l0, l1, l2, l3, l4, l5, l6, l7] L2 St S = ev c 311 2799 [l0, l1, l2, l3, l4, l5, l6, l7] L2 St S := ev_go i311_1777 rfl
theorem i311_1780 : insAt 311 1780 = some (.aload_n 1, 1, (0, 0, 0, 0), 0) := rfl
theorem s311_1780 {c : Nat → List AV → SS → Option Out} {l0 l2 l3 l4 l5 l6 l7 : Option AV} {o : OId} {L2 : List (Nat × AV)} {St : List AV} {S : SS} : ev c 311 1780 [l0, some (aR o), l2, l3, l4, l5, l6, l7] L2 St S = ev c 311 1781 [l0, some (aR o), l2, l3, l4, l5, l6, l7] L2 (aR o :: St) S := ev_go i311_1780 rfl
theorem i311_1781 : insAt 311 1781 = some (.aload 4, 2, (0, 0, 0, 0), 0) := rfl
theorem s311_1781 {c : Nat → List AV → SS → Option Out} {l0 l1 l2 l3 l5 l6 l7 : Option AV} {o : OId} {L2 : List (Nat × AV)} {St : List AV} {S : SS} : ev c 311 1781 [l0, l1, l2, l3, some (aR o), l5, l6, l7] L2 St S = ev c 311 1783 [l0, l1, l2, l3, some (aR o), l5, l6, l7] L2 (aR o :: St) S := ev_go i311_1781 rfl
theorem i311_1783 : insAt 311 1783 = some (.invokestatic 250, 3, (133, 2, 0, 0), 500) := rfl
theorem s311_1783 {c : Nat → List AV → SS → Option Out} {l0 l1 l2 l3 l4 l5 l6 l7 : Option AV} {a0 : OId} {a1 : OId} {L2 : List (Nat × AV)} {S : SS} : ev c 311 1783 [l0, l1, l2, l3, l4, l5, l6, l7] L2 [aR a1, aR a0] S = ck (c 133 [aR a0, aR a1] S) (fun v S' => ev c 311 1786 [l0, l1, l2, l3, l4, l5, l6, l7] L2 (v.toList ++ []) S') := ev_call i311_1783 rfl
theorem i311_1786 : insAt 311 1786 = some (.istore 6, 2, (0, 0, 0, 0), 0) := rfl
theorem s311_1786 {c : Nat → List AV → SS → Option Out} {l0 l1 l2 l3 l4 l5 l6 l7 : Option AV} {x : Int32} {L2 : List (Nat × AV)} {St : List AV} {S : SS} : ev c 311 1786 [l0, l1, l2, l3, l4, l5, l6, l7] L2 (aI x :: St) S = ev c 311 1788 [l0, l1, l2, l3, l4, l5, some (aI x), l7] (kil L2 6) St S := ev_go i311_1786 rfl
theorem i311_1788 : insAt 311 1788 = some (.aload_n 2, 1, (0, 0, 0, 0), 0) := rfl
theorem s311_1788 {c : Nat → List AV → SS → Option Out} {l0 l1 l3 l4 l5 l6 l7 : Option AV} {o : OId} {L2 : List (Nat × AV)} {St : List AV} {S : SS} : ev c 311 1788 [l0, l1, some (aR o), l3, l4, l5, l6, l7] L2 St S = ev c 311 1789 [l0, l1, some (aR o), l3, l4, l5, l6, l7] L2 (aR o :: St) S := ev_go i311_1788 rfl
theorem i311_1789 : insAt 311 1789 = some (.invokevirtual 253, 3, (282, 0, 2, 12), 501) := rfl
theorem s311_1789 {c : Nat → List AV → SS → Option Out} {l0 l1 l2 l3 l4 l5 l6 l7 : Option AV} {j t : Nat} {L2 : List (Nat × AV)} {S : SS} : ev c 311 1789 [l0, l1, l2, l3, l4, l5, l6, l7] L2 [aR (12, j, t)] S = ck (c 282 [aR (12, j, t)] S) (fun v S' => ev c 311 1792 [l0, l1, l2, l3, l4, l5, l6, l7] L2 (v.toList ++ []) S') := ev_call i311_1789 rfl
theorem i311_1792 : insAt 311 1792 = some (.fstore 7, 2, (0, 0, 0, 0), 0) := rfl
theorem s311_1792 {c : Nat → List AV → SS → Option Out} {l0 l1 l2 l3 l4 l5 l6 l7 : Option AV} {x : UInt32} {L2 : List (Nat × AV)} {St : List AV} {S : SS} : ev c 311 1792 [l0, l1, l2, l3, l4, l5, l6, l7] L2 (aF x :: St) S = ev c 311 1794 [l0, l1, l2, l3, l4, l5, l6, some (aF x)] (kil L2 7) St S := ev_go i311_1792 rfl
theorem i311_1794 : insAt 311 1794 = some (.aload_n 2, 1, (0, 0, 0, 0), 0) := rfl
theorem s311_1794 {c : Nat → List AV → SS → Option Out} {l0 l1 l3 l4 l5 l6 l7 : Option AV} {o : OId} {L2 : List (Nat × AV)} {St : List AV} {S : SS} : ev c 311 1794 [l0, l1, some (aR o), l3, l4, l5, l6, l7] L2 St S = ev c 311 1795 [l0, l1, some (aR o), l3, l4, l5, l6, l7] L2 (aR o :: St) S := ev_go i311_1794 rfl
theorem i311_1795 : insAt 311 1795 = some (.invokevirtual 149, 3, (215, 0, 2, 12), 441) := rfl
theorem s311_1795 {c : Nat → List AV → SS → Option Out} {l0 l1 l2 l3 l4 l5 l6 l7 : Option AV} {j t : Nat} {L2 : List (Nat × AV)} {S : SS} : ev c 311 1795 [l0, l1, l2, l3, l4, l5, l6, l7] L2 [aR (12, j, t)] S = ck (c 215 [aR (12, j, t)] S) (fun v S' => ev c 311 1798 [l0, l1, l2, l3, l4, l5, l6, l7] L2 (v.toList ++ []) S') := ev_call i311_1795 rfl
theorem i311_1798 : insAt 311 1798 = some (.iload 6, 2, (0, 0, 0, 0), 0) := rfl
theorem s311_1798 {c : Nat → List AV → SS → Option Out} {l0 l1 l2 l3 l4 l5 l7 : Option AV} {x : Int32} {L2 : List (Nat × AV)} {St : List AV} {S : SS} : ev c 311 1798 [l0, l1, l2, l3, l4, l5, some (aI x), l7] L2 St S = ev c 311 1800 [l0, l1, l2, l3, l4, l5, some (aI x), l7] L2 (aI x :: St) S := ev_go i311_1798 rfl
theorem i311_1800 : insAt 311 1800 = some (.if_icmp .eq 5, 3, (0, 0, 0, 0), 0) := rfl
theorem s311_1800 {c : Nat → List AV → SS → Option Out} {l0 l1 l2 l3 l4 l5 l6 l7 : Option AV} {x y : Int32} {L2 : List (Nat × AV)} {St : List AV} {S : SS} : ev c 311 1800 [l0, l1, l2, l3, l4, l5, l6, l7] L2 (aI y :: aI x :: St) S = if x = y then ev c 311 1805 [l0, l1, l2, l3, l4, l5, l6, l7] L2 St S else ev c 311 1803 [l0, l1, l2, l3, l4, l5, l6, l7] L2 St S := ev_br i311_1800 rfl
theorem i311_1803 : insAt 311 1803 = some (.iconst 0, 1, (0, 0, 0, 0), 0) := rfl
theorem s311_1803 {c : Nat → List AV → SS → Option Out} {l0 l1 l2 l3 l4 l5 l6 l7 : Option AV} {L2 : List (Nat × AV)} {St : List AV} {S : SS} : ev c 311 1803 [l0, l1, l2, l3, l4, l5, l6, l7] L2 St S = ev c 311 1804 [l0, l1, l2, l3, l4, l5, l6, l7] L2 (aI 0 :: St) S := ev_go i311_1803 rfl
theorem i311_1804 : insAt 311 1804 = some (.ireturn, 1, (0, 0, 0, 0), 0) := rfl
theorem s311_1804 {c : Nat → List AV → SS → Option Out} {l0 l1 l2 l3 l4 l5 l6 l7 : Option AV} {x : Int32} {L2 : List (Nat × AV)} {S : SS} : ev c 311 1804 [l0, l1, l2, l3, l4, l5, l6, l7] L2 [aI x] S = if x = 0 ∨ x = 1 then some (.inl (some (aI x)), S) else none := ev_rt i311_1804 rfl
theorem i311_1805 : insAt 311 1805 = some (.iload 6, 2, (0, 0, 0, 0), 0) := rfl
theorem s311_1805 {c : Nat → List AV → SS → Option Out} {l0 l1 l2 l3 l4 l5 l7 : Option AV} {x : Int32} {L2 : List (Nat × AV)} {St : List AV} {S : SS} : ev c 311 1805 [l0, l1, l2, l3, l4, l5, some (aI x), l7] L2 St S = ev c 311 1807 [l0, l1, l2, l3, l4, l5, some (aI x), l7] L2 (aI x :: St) S := ev_go i311_1805 rfl
theorem i311_1807 : insAt 311 1807 = some (.ifCond .ne 36, 3, (0, 0, 0, 0), 0) := rfl
theorem s311_1807 {c : Nat → List AV → SS → Option Out} {l0 l1 l2 l3 l4 l5 l6 l7 : Option AV} {x : Int32} {L2 : List (Nat × AV)} {St : List AV} {S : SS} : ev c 311 1807 [l0, l1, l2, l3, l4, l5, l6, l7] L2 (aI x :: St) S = if x = 0 then ev c 311 1810 [l0, l1, l2, l3, l4, l5, l6, l7] L2 St S else ev c 311 1843 [l0, l1, l2, l3, l4, l5, l6, l7] L2 St S := (ev_br i311_1807 rfl).trans (ite_not _ _ _)
theorem i311_1810 : insAt 311 1810 = some (.aload 4, 2, (0, 0, 0, 0), 0) := rfl
theorem s311_1810 {c : Nat → List AV → SS → Option Out} {l0 l1 l2 l3 l5 l6 l7 : Option AV} {o : OId} {L2 : List (Nat × AV)} {St : List AV} {S : SS} : ev c 311 1810 [l0, l1, l2, l3, some (aR o), l5, l6, l7] L2 St S = ev c 311 1812 [l0, l1, l2, l3, some (aR o), l5, l6, l7] L2 (aR o :: St) S := ev_go i311_1810 rfl
theorem i311_1812 : insAt 311 1812 = some (.iconst 0, 1, (0, 0, 0, 0), 0) := rfl
theorem s311_1812 {c : Nat → List AV → SS → Option Out} {l0 l1 l2 l3 l4 l5 l6 l7 : Option AV} {L2 : List (Nat × AV)} {St : List AV} {S : SS} : ev c 311 1812 [l0, l1, l2, l3, l4, l5, l6, l7] L2 St S = ev c 311 1813 [l0, l1, l2, l3, l4, l5, l6, l7] L2 (aI 0 :: St) S := ev_go i311_1812 rfl
theorem i311_1813 : insAt 311 1813 = some (.daload, 1, (0, 0, 0, 0), 0) := rfl
theorem s311_1813 {c : Nat → List AV → SS → Option Out} {l0 l1 l2 l3 l4 l5 l6 l7 : Option AV} {i : Int32} {o : OId} {L2 : List (Nat × AV)} {St : List AV} {S : SS} : ev c 311 1813 [l0, l1, l2, l3, l4, l5, l6, l7] L2 (aI i :: aR o :: St) S = kD o i (ev c 311 1814 [l0, l1, l2, l3, l4, l5, l6, l7] L2 (aD (toD (S.2.1 o i.toNatClampNeg)) :: St) S) := ev_daload i311_1813
theorem i311_1814 : insAt 311 1814 = some (.fload 7, 2, (0, 0, 0, 0), 0) := rfl
theorem s311_1814 {c : Nat → List AV → SS → Option Out} {l0 l1 l2 l3 l4 l5 l6 : Option AV} {x : UInt32} {L2 : List (Nat × AV)} {St : List AV} {S : SS} : ev c 311 1814 [l0, l1, l2, l3, l4, l5, l6, some (aF x)] L2 St S = ev c 311 1816 [l0, l1, l2, l3, l4, l5, l6, some (aF x)] L2 (aF x :: St) S := ev_go i311_1814 rfl
theorem i311_1816 : insAt 311 1816 = some (.f2d, 1, (0, 0, 0, 0), 0) := rfl
theorem s311_1816 {c : Nat → List AV → SS → Option Out} {l0 l1 l2 l3 l4 l5 l6 l7 : Option AV} {x : UInt32} {L2 : List (Nat × AV)} {St : List AV} {S : SS} : ev c 311 1816 [l0, l1, l2, l3, l4, l5, l6, l7] L2 (aF x :: St) S = if FP.f2d x &&& 0x7fffffffffffffff ≤ 0x7ff0000000000000 then ev c 311 1817 [l0, l1, l2, l3, l4, l5, l6, l7] L2 (aD (FP.f2d x) :: St) S else none := ev_if i311_1816 rfl
theorem i311_1817 : insAt 311 1817 = some (.dcmp .l, 1, (0, 0, 0, 0), 0) := rfl
theorem s311_1817 {c : Nat → List AV → SS → Option Out} {l0 l1 l2 l3 l4 l5 l6 l7 : Option AV} {x y : UInt64} {L2 : List (Nat × AV)} {St : List AV} {S : SS} : ev c 311 1817 [l0, l1, l2, l3, l4, l5, l6, l7] L2 (aD y :: aD x :: St) S = ev c 311 1818 [l0, l1, l2, l3, l4, l5, l6, l7] L2 (aI (Op.cmpValue (FP.dcmp x y) .l) :: St) S := ev_go i311_1817 rfl
theorem i311_1818 : insAt 311 1818 = some (.ifCond .eq 25, 3, (0, 0, 0, 0), 0) := rfl
theorem s311_1818 {c : Nat → List AV → SS → Option Out} {l0 l1 l2 l3 l4 l5 l6 l7 : Option AV} {x : Int32} {L2 : List (Nat × AV)} {St : List AV} {S : SS} : ev c 311 1818 [l0, l1, l2, l3, l4, l5, l6, l7] L2 (aI x :: St) S = if x = 0 then ev c 311 1843 [l0, l1, l2, l3, l4, l5, l6, l7] L2 St S else ev c 311 1821 [l0, l1, l2, l3, l4, l5, l6, l7] L2 St S := ev_br i311_1818 rfl
theorem i311_1821 : insAt 311 1821 = some (.aload 4, 2, (0, 0, 0, 0), 0) := rfl
theorem s311_1821 {c : Nat → List AV → SS → Option Out} {l0 l1 l2 l3 l5 l6 l7 : Option AV} {o : OId} {L2 : List (Nat × AV)} {St : List AV} {S : SS} : ev c 311 1821 [l0, l1, l2, l3, some (aR o), l5, l6, l7] L2 St S = ev c 311 1823 [l0, l1, l2, l3, some (aR o), l5, l6, l7] L2 (aR o :: St) S := ev_go i311_1821 rfl
theorem i311_1823 : insAt 311 1823 = some (.iconst 0, 1, (0, 0, 0, 0), 0) := rfl
theorem s311_1823 {c : Nat → List AV → SS → Option Out} {l0 l1 l2 l3 l4 l5 l6 l7 : Option AV} {L2 : List (Nat × AV)} {St : List AV} {S : SS} : ev c 311 1823 [l0, l1, l2, l3, l4, l5, l6, l7] L2 St S = ev c 311 1824 [l0, l1, l2, l3, l4, l5, l6, l7] L2 (aI 0 :: St) S := ev_go i311_1823 rfl
theorem i311_1824 : insAt 311 1824 = some (.daload, 1, (0, 0, 0, 0), 0) := rfl
theorem s311_1824 {c : Nat → List AV → SS → Option Out} {l0 l1 l2 l3 l4 l5 l6 l7 : Option AV} {i : Int32} {o : OId} {L2 : List (Nat × AV)} {St : List AV} {S : SS} : ev c 311 1824 [l0, l1, l2, l3, l4, l5, l6, l7] L2 (aI i :: aR o :: St) S = kD o i (ev c 311 1825 [l0, l1, l2, l3, l4, l5, l6, l7] L2 (aD (toD (S.2.1 o i.toNatClampNeg)) :: St) S) := ev_daload i311_1824
theorem i311_1825 : insAt 311 1825 = some (.aload 4, 2, (0, 0, 0, 0), 0) := rfl
theorem s311_1825 {c : Nat → List AV → SS → Option Out} {l0 l1 l2 l3 l5 l6 l7 : Option AV} {o : OId} {L2 : List (Nat × AV)} {St : List AV} {S : SS} : ev c 311 1825 [l0, l1, l2, l3, some (aR o), l5, l6, l7] L2 St S = ev c 311 1827 [l0, l1, l2, l3, some (aR o), l5, l6, l7] L2 (aR o :: St) S := ev_go i311_1825 rfl
theorem i311_1827 : insAt 311 1827 = some (.iconst 0, 1, (0, 0, 0, 0), 0) := rfl
theorem s311_1827 {c : Nat → List AV → SS → Option Out} {l0 l1 l2 l3 l4 l5 l6 l7 : Option AV} {L2 : List (Nat × AV)} {St : List AV} {S : SS} : ev c 311 1827 [l0, l1, l2, l3, l4, l5, l6, l7] L2 St S = ev c 311 1828 [l0, l1, l2, l3, l4, l5, l6, l7] L2 (aI 0 :: St) S := ev_go i311_1827 rfl
theorem i311_1828 : insAt 311 1828 = some (.daload, 1, (0, 0, 0, 0), 0) := rfl
theorem s311_1828 {c : Nat → List AV → SS → Option Out} {l0 l1 l2 l3 l4 l5 l6 l7 : Option AV} {i : Int32} {o : OId} {L2 : List (Nat × AV)} {St : List AV} {S : SS} : ev c 311 1828 [l0, l1, l2, l3, l4, l5, l6, l7] L2 (aI i :: aR o :: St) S = kD o i (ev c 311 1829 [l0, l1, l2, l3, l4, l5, l6, l7] L2 (aD (toD (S.2.1 o i.toNatClampNeg)) :: St) S) := ev_daload i311_1828
theorem i311_1829 : insAt 311 1829 = some (.dcmp .l, 1, (0, 0, 0, 0), 0) := rfl
theorem s311_1829 {c : Nat → List AV → SS → Option Out} {l0 l1 l2 l3 l4 l5 l6 l7 : Option AV} {x y : UInt64} {L2 : List (Nat × AV)} {St : List AV} {S : SS} : ev c 311 1829 [l0, l1, l2, l3, l4, l5, l6, l7] L2 (aD y :: aD x :: St) S = ev c 311 1830 [l0, l1, l2, l3, l4, l5, l6, l7] L2 (aI (Op.cmpValue (FP.dcmp x y) .l) :: St) S := ev_go i311_1829 rfl
theorem i311_1830 : insAt 311 1830 = some (.ifCond .eq 11, 3, (0, 0, 0, 0), 0) := rfl
theorem s311_1830 {c : Nat → List AV → SS → Option Out} {l0 l1 l2 l3 l4 l5 l6 l7 : Option AV} {x : Int32} {L2 : List (Nat × AV)} {St : List AV} {S : SS} : ev c 311 1830 [l0, l1, l2, l3, l4, l5, l6, l7] L2 (aI x :: St) S = if x = 0 then ev c 311 1841 [l0, l1, l2, l3, l4, l5, l6, l7] L2 St S else ev c 311 1833 [l0, l1, l2, l3, l4, l5, l6, l7] L2 St S := ev_br i311_1830 rfl
theorem i311_1833 : insAt 311 1833 = some (.fload 7, 2, (0, 0, 0, 0), 0) := rfl
theorem s311_1833 {c : Nat → List AV → SS → Option Out} {l0 l1 l2 l3 l4 l5 l6 : Option AV} {x : UInt32} {L2 : List (Nat × AV)} {St : List AV} {S : SS} : ev c 311 1833 [l0, l1, l2, l3, l4, l5, l6, some (aF x)] L2 St S = ev c 311 1835 [l0, l1, l2, l3, l4, l5, l6, some (aF x)] L2 (aF x :: St) S := ev_go i311_1833 rfl
theorem i311_1835 : insAt 311 1835 = some (.fload 7, 2, (0, 0, 0, 0), 0) := rfl
theorem s311_1835 {c : Nat → List AV → SS → Option Out} {l0 l1 l2 l3 l4 l5 l6 : Option AV} {x : UInt32} {L2 : List (Nat × AV)} {St : List AV} {S : SS} : ev c 311 1835 [l0, l1, l2, l3, l4, l5, l6, some (aF x)] L2 St S = ev c 311 1837 [l0, l1, l2, l3, l4, l5, l6, some (aF x)] L2 (aF x :: St) S := ev_go i311_1835 rfl
theorem i311_1837 : insAt 311 1837 = some (.fcmp .l, 1, (0, 0, 0, 0), 0) := rfl
theorem s311_1837 {c : Nat → List AV → SS → Option Out} {l0 l1 l2 l3 l4 l5 l6 l7 : Option AV} {x y : UInt32} {L2 : List (Nat × AV)} {St : List AV} {S : SS} : ev c 311 1837 [l0, l1, l2, l3, l4, l5, l6, l7] L2 (aF y :: aF x :: St) S = ev c 311 1838 [l0, l1, l2, l3, l4, l5, l6, l7] L2 (aI (Op.cmpValue (FP.fcmp x y) .l) :: St) S := ev_go i311_1837 rfl
theorem i311_1838 : insAt 311 1838 = some (.ifCond .ne 5, 3, (0, 0, 0, 0), 0) := rfl
theorem s311_1838 {c : Nat → List AV → SS → Option Out} {l0 l1 l2 l3 l4 l5 l6 l7 : Option AV} {x : Int32} {L2 : List (Nat × AV)} {St : List AV} {S : SS} : ev c 311 1838 [l0, l1, l2, l3, l4, l5, l6, l7] L2 (aI x :: St) S = if x = 0 then ev c 311 1841 [l0, l1, l2, l3, l4, l5, l6, l7] L2 St S else ev c 311 1843 [l0, l1, l2, l3, l4, l5, l6, l7] L2 St S := (ev_br i311_1838 rfl).trans (ite_not _ _ _)
theorem i311_1841 : insAt 311 1841 = some (.iconst 0, 1, (0, 0, 0, 0), 0) := rfl
theorem s311_1841 {c : Nat → List AV → SS → Option Out} {l0 l1 l2 l3 l4 l5 l6 l7 : Option AV} {L2 : List (Nat × AV)} {St : List AV} {S : SS} : ev c 311 1841 [l0, l1, l2, l3, l4, l5, l6, l7] L2 St S = ev c 311 1842 [l0, l1, l2, l3, l4, l5, l6, l7] L2 (aI 0 :: St) S := ev_go i311_1841 rfl
theorem i311_1842 : insAt 311 1842 = some (.ireturn, 1, (0, 0, 0, 0), 0) := rfl
theorem s311_1842 {c : Nat → List AV → SS → Option Out} {l0 l1 l2 l3 l4 l5 l6 l7 : Option AV} {x : Int32} {L2 : List (Nat × AV)} {S : SS} : ev c 311 1842 [l0, l1, l2, l3, l4, l5, l6, l7] L2 [aI x] S = if x = 0 ∨ x = 1 then some (.inl (some (aI x)), S) else none := ev_rt i311_1842 rfl
theorem i311_1843 : insAt 311 1843 = some (.goto 956, 3, (0, 0, 0, 0), 0) := rfl
theorem s311_1843 {c : Nat → List AV → SS → Option Out} {l0 l1 l2 l3 l4 l5 l6 l7 : Option AV} {L2 : List (Nat × AV)} {St : List AV} {S : SS} : ev c 311 1843 [l0, l1, l2, l3, l4, l5, l6, l7] L2 St S = ev c 311 2799 [l0, l1, l2, l3, l4, l5, l6, l7] L2 St S := ev_go i311_1843 rfl
theorem i311_1846 : insAt 311 1846 = some (.aload_n 1, 1, (0, 0, 0, 0), 0) := rfl
theorem s311_1846 {c : Nat → List AV → SS → Option Out} {l0 l2 l3 l4 l5 l6 l7 : Option AV} {o : OId} {L2 : List (Nat × AV)} {St : List AV} {S : SS} : ev c 311 1846 [l0, some (aR o), l2, l3, l4, l5, l6, l7] L2 St S = ev c 311 1847 [l0, some (aR o), l2, l3, l4, l5, l6, l7] L2 (aR o :: St) S := ev_go i311_1846 rfl
theorem i311_1847 : insAt 311 1847 = some (.invokevirtual 254, 3, (22, 0, 2, 11), 502) := rfl
theorem s311_1847 {c : Nat → List AV → SS → Option Out} {l0 l1 l2 l3 l4 l5 l6 l7 : Option AV} {j t : Nat} {L2 : List (Nat × AV)} {S : SS} : ev c 311 1847 [l0, l1, l2, l3, l4, l5, l6, l7] L2 [aR (11, j, t)] S = ck (c 22 [aR (11, j, t)] S) (fun v S' => ev c 311 1850 [l0, l1, l2, l3, l4, l5, l6, l7] L2 (v.toList ++ []) S') := ev_call i311_1847 rfl
theorem i311_1850 : insAt 311 1850 = some (.aload_n 2, 1, (0, 0, 0, 0), 0) := rfl
theorem s311_1850 {c : Nat → List AV → SS → Option Out} {l0 l1 l3 l4 l5 l6 l7 : Option AV} {o : OId} {L2 : List (Nat × AV)} {St : List AV} {S : SS} : ev c 311 1850 [l0, l1, some (aR o), l3, l4, l5, l6, l7] L2 St S = ev c 311 1851 [l0, l1, some (aR o), l3, l4, l5, l6, l7] L2 (aR o :: St) S := ev_go i311_1850 rfl
theorem i311_1851 : insAt 311 1851 = some (.invokevirtual 258, 3, (283, 0, 2, 12), 503) := rfl
theorem s311_1851 {c : Nat → List AV → SS → Option Out} {l0 l1 l2 l3 l4 l5 l6 l7 : Option AV} {t0 : AV} {j t : Nat} {L2 : List (Nat × AV)} {S : SS} : ev c 311 1851 [l0, l1, l2, l3, l4, l5, l6, l7] L2 [aR (12, j, t), t0] S = ck (c 283 [aR (12, j, t)] S) (fun v S' => ev c 311 1854 [l0, l1, l2, l3, l4, l5, l6, l7] L2 (v.toList ++ [t0]) S') := ev_call i311_1851 rfl
theorem i311_1854 : insAt 311 1854 = some (.if_icmp .eq 945, 3, (0, 0, 0, 0), 0) := rfl
theorem s311_1854 {c : Nat → List AV → SS → Option Out} {l0 l1 l2 l3 l4 l5 l6 l7 : Option AV} {x y : Int32} {L2 : List (Nat × AV)} {St : List AV} {S : SS} : ev c 311 1854 [l0, l1, l2, l3, l4, l5, l6, l7] L2 (aI y :: aI x :: St) S = if x = y then ev c 311 2799 [l0, l1, l2, l3, l4, l5, l6, l7] L2 St S else ev c 311 1857 [l0, l1, l2, l3, l4, l5, l6, l7] L2 St S := ev_br i311_1854 rfl
theorem i311_1857 : insAt 311 1857 = some (.iconst 0, 1, (0, 0, 0, 0), 0) := rfl
theorem s311_1857 {c : Nat → List AV → SS → Option Out} {l0 l1 l2 l3 l4 l5 l6 l7 : Option AV} {L2 : List (Nat × AV)} {St : List AV} {S : SS} : ev c 311 1857 [l0, l1, l2, l3, l4, l5, l6, l7] L2 St S = ev c 311 1858 [l0, l1, l2, l3, l4, l5, l6, l7] L2 (aI 0 :: St) S := ev_go i311_1857 rfl
theorem i311_1858 : insAt 311 1858 = some (.ireturn, 1, (0, 0, 0, 0), 0) := rfl
theorem s311_1858 {c : Nat → List AV → SS → Option Out} {l0 l1 l2 l3 l4 l5 l6 l7 : Option AV} {x : Int32} {L2 : List (Nat × AV)} {S : SS} : ev c 311 1858 [l0, l1, l2, l3, l4, l5, l6, l7] L2 [aI x] S = if x = 0 ∨ x = 1 then some (.inl (some (aI x)), S) else none := ev_rt i311_1858 rfl
theorem i311_1859 : insAt 311 1859 = some (.aload_n 1, 1, (0, 0, 0, 0), 0) := rfl
theorem s311_1859 {c : Nat → List AV → SS → Option Out} {l0 l2 l3 l4 l5 l6 l7 : Option AV} {o : OId} {L2 : List (Nat × AV)} {St : List AV} {S : SS} : ev c 311 1859 [l0, some (aR o), l2, l3, l4, l5, l6, l7] L2 St S = ev c 311 1860 [l0, some (aR o), l2, l3, l4, l5, l6, l7] L2 (aR o :: St) S := ev_go i311_1859 rfl
theorem i311_1860 : insAt 311 1860 = some (.aload_n 0, 1, (0, 0, 0, 0), 0) := rfl
theorem s311_1860 {c : Nat → List AV → SS → Option Out} {l1 l2 l3 l4 l5 l6 l7 : Option AV} {o : OId} {L2 : List (Nat × AV)} {St : List AV} {S : SS} : ev c 311 1860 [some (aR o), l1, l2, l3, l4, l5, l6, l7] L2 St S = ev c 311 1861 [some (aR o), l1, l2, l3, l4, l5, l6, l7] L2 (aR o :: St) S := ev_go i311_1860 rfl
theorem i311_1861 : insAt 311 1861 = some (.iload 5, 2, (0, 0, 0, 0), 0) := rfl
theorem s311_1861 {c : Nat → List AV → SS → Option Out} {l0 l1 l2 l3 l4 l6 l7 : Option AV} {x : Int32} {L2 : List (Nat × AV)} {St : List AV} {S : SS} : ev c 311 1861 [l0, l1, l2, l3, l4, some (aI x), l6, l7] L2 St S = ev c 311 1863 [l0, l1, l2, l3, l4, some (aI x), l6, l7] L2 (aI x :: St) S := ev_go i311_1861 rfl
theorem i311_1863 : insAt 311 1863 = some (.iconst 1, 1, (0, 0, 0, 0), 0) := rfl
theorem s311_1863 {c : Nat → List AV → SS → Option Out} {l0 l1 l2 l3 l4 l5 l6 l7 : Option AV} {L2 : List (Nat × AV)} {St : List AV} {S : SS} : ev c 311 1863 [l0, l1, l2, l3, l4, l5, l6, l7] L2 St S = ev c 311 1864 [l0, l1, l2, l3, l4, l5, l6, l7] L2 (aI 1 :: St) S := ev_go i311_1863 rfl
theorem i311_1864 : insAt 311 1864 = some (.iadd, 1, (0, 0, 0, 0), 0) := rfl
theorem s311_1864 {c : Nat → List AV → SS → Option Out} {l0 l1 l2 l3 l4 l5 l6 l7 : Option AV} {x y : Int32} {L2 : List (Nat × AV)} {St : List AV} {S : SS} : ev c 311 1864 [l0, l1, l2, l3, l4, l5, l6, l7] L2 (aI y :: aI x :: St) S = ev c 311 1865 [l0, l1, l2, l3, l4, l5, l6, l7] L2 (aI (x + y) :: St) S := ev_go i311_1864 rfl
theorem i311_1865 : insAt 311 1865 = some (.iaload, 1, (0, 0, 0, 0), 0) := rfl
theorem s311_1865 {c : Nat → List AV → SS → Option Out} {l0 l1 l2 l3 l4 l5 l6 l7 : Option AV} {i : Int32} {o : OId} {L2 : List (Nat × AV)} {St : List AV} {S : SS} : ev c 311 1865 [l0, l1, l2, l3, l4, l5, l6, l7] L2 (aI i :: aR o :: St) S = kI o i (ev c 311 1866 [l0, l1, l2, l3, l4, l5, l6, l7] L2 (aI (agI S o i.toNatClampNeg) :: St) S) := ev_iaload i311_1865
theorem i311_1866 : insAt 311 1866 = some (.aload_n 0, 1, (0, 0, 0, 0), 0) := rfl
theorem s311_1866 {c : Nat → List AV → SS → Option Out} {l1 l2 l3 l4 l5 l6 l7 : Option AV} {o : OId} {L2 : List (Nat × AV)} {St : List AV} {S : SS} : ev c 311 1866 [some (aR o), l1, l2, l3, l4, l5, l6, l7] L2 St S = ev c 311 1867 [some (aR o), l1, l2, l3, l4, l5, l6, l7] L2 (aR o :: St) S := ev_go i311_1866 rfl
theorem i311_1867 : insAt 311 1867 = some (.iload 5, 2, (0, 0, 0, 0), 0) := rfl
theorem s311_1867 {c : Nat → List AV → SS → Option Out} {l0 l1 l2 l3 l4 l6 l7 : Option AV} {x : Int32} {L2 : List (Nat × AV)} {St : List AV} {S : SS} : ev c 311 1867 [l0, l1, l2, l3, l4, some (aI x), l6, l7] L2 St S = ev c 311 1869 [l0, l1, l2, l3, l4, some (aI x), l6, l7] L2 (aI x :: St) S := ev_go i311_1867 rfl
theorem i311_1869 : insAt 311 1869 = some (.iconst 2, 1, (0, 0, 0, 0), 0) := rfl
theorem s311_1869 {c : Nat → List AV → SS → Option Out} {l0 l1 l2 l3 l4 l5 l6 l7 : Option AV} {L2 : List (Nat × AV)} {St : List AV} {S : SS} : ev c 311 1869 [l0, l1, l2, l3, l4, l5, l6, l7] L2 St S = ev c 311 1870 [l0, l1, l2, l3, l4, l5, l6, l7] L2 (aI 2 :: St) S := ev_go i311_1869 rfl
theorem i311_1870 : insAt 311 1870 = some (.iadd, 1, (0, 0, 0, 0), 0) := rfl
theorem s311_1870 {c : Nat → List AV → SS → Option Out} {l0 l1 l2 l3 l4 l5 l6 l7 : Option AV} {x y : Int32} {L2 : List (Nat × AV)} {St : List AV} {S : SS} : ev c 311 1870 [l0, l1, l2, l3, l4, l5, l6, l7] L2 (aI y :: aI x :: St) S = ev c 311 1871 [l0, l1, l2, l3, l4, l5, l6, l7] L2 (aI (x + y) :: St) S := ev_go i311_1870 rfl
theorem i311_1871 : insAt 311 1871 = some (.iaload, 1, (0, 0, 0, 0), 0) := rfl
theorem s311_1871 {c : Nat → List AV → SS → Option Out} {l0 l1 l2 l3 l4 l5 l6 l7 : Option AV} {i : Int32} {o : OId} {L2 : List (Nat × AV)} {St : List AV} {S : SS} : ev c 311 1871 [l0, l1, l2, l3, l4, l5, l6, l7] L2 (aI i :: aR o :: St) S = kI o i (ev c 311 1872 [l0, l1, l2, l3, l4, l5, l6, l7] L2 (aI (agI S o i.toNatClampNeg) :: St) S) := ev_iaload i311_1871
theorem i311_1872 : insAt 311 1872 = some (.aload_n 3, 1, (0, 0, 0, 0), 0) := rfl
theorem s311_1872 {c : Nat → List AV → SS → Option Out} {l0 l1 l2 l4 l5 l6 l7 : Option AV} {o : OId} {L2 : List (Nat × AV)} {St : List AV} {S : SS} : ev c 311 1872 [l0, l1, l2, some (aR o), l4, l5, l6, l7] L2 St S = ev c 311 1873 [l0, l1, l2, some (aR o), l4, l5, l6, l7] L2 (aR o :: St) S := ev_go i311_1872 rfl
theorem i311_1873 : insAt 311 1873 = some (.invokestatic 259, 3, (136, 4, 0, 0), 504) := rfl
theorem s311_1873 {c : Nat → List AV → SS → Option Out} {l0 l1 l2 l3 l4 l5 l6 l7 : Option AV} {a0 : OId} {a1 : Int32} {a2 : Int32} {a3 : OId} {L2 : List (Nat × AV)} {S : SS} : ev c 311 1873 [l0, l1, l2, l3, l4, l5, l6, l7] L2 [aR a3, aI a2, aI a1, aR a0] S = ck (c 136 [aR a0, aI a1, aI a2, aR a3] S) (fun v S' => ev c 311 1876 [l0, l1, l2, l3, l4, l5, l6, l7] L2 (v.toList ++ []) S') := ev_call i311_1873 rfl
theorem i311_1876 : insAt 311 1876 = some (.istore 6, 2, (0, 0, 0, 0), 0) := rfl
theorem s311_1876 {c : Nat → List AV → SS → Option Out} {l0 l1 l2 l3 l4 l5 l6 l7 : Option AV} {x : Int32} {L2 : List (Nat × AV)} {St : List AV} {S : SS} : ev c 311 1876 [l0, l1, l2, l3, l4, l5, l6, l7] L2 (aI x :: St) S = ev c 311 1878 [l0, l1, l2, l3, l4, l5, some (aI x), l7] (kil L2 6) St S := ev_go i311_1876 rfl
theorem i311_1878 : insAt 311 1878 = some (.aload_n 2, 1, (0, 0, 0, 0), 0) := rfl
theorem s311_1878 {c : Nat → List AV → SS → Option Out} {l0 l1 l3 l4 l5 l6 l7 : Option AV} {o : OId} {L2 : List (Nat × AV)} {St : List AV} {S : SS} : ev c 311 1878 [l0, l1, some (aR o), l3, l4, l5, l6, l7] L2 St S = ev c 311 1879 [l0, l1, some (aR o), l3, l4, l5, l6, l7] L2 (aR o :: St) S := ev_go i311_1878 rfl
theorem i311_1879 : insAt 311 1879 = some (.aload_n 0, 1, (0, 0, 0, 0), 0) := rfl
theorem s311_1879 {c : Nat → List AV → SS → Option Out} {l1 l2 l3 l4 l5 l6 l7 : Option AV} {o : OId} {L2 : List (Nat × AV)} {St : List AV} {S : SS} : ev c 311 1879 [some (aR o), l1, l2, l3, l4, l5, l6, l7] L2 St S = ev c 311 1880 [some (aR o), l1, l2, l3, l4, l5, l6, l7] L2 (aR o :: St) S := ev_go i311_1879 rfl
theorem i311_1880 : insAt 311 1880 = some (.iload 5, 2, (0, 0, 0, 0), 0) := rfl
theorem s311_1880 {c : Nat → List AV → SS → Option Out} {l0 l1 l2 l3 l4 l6 l7 : Option AV} {x : Int32} {L2 : List (Nat × AV)} {St : List AV} {S : SS} : ev c 311 1880 [l0, l1, l2, l3, l4, some (aI x), l6, l7] L2 St S = ev c 311 1882 [l0, l1, l2, l3, l4, some (aI x), l6, l7] L2 (aI x :: St) S := ev_go i311_1880 rfl
theorem i311_1882 : insAt 311 1882 = some (.iconst 1, 1, (0, 0, 0, 0), 0) := rfl
theorem s311_1882 {c : Nat → List AV → SS → Option Out} {l0 l1 l2 l3 l4 l5 l6 l7 : Option AV} {L2 : List (Nat × AV)} {St : List AV} {S : SS} : ev c 311 1882 [l0, l1, l2, l3, l4, l5, l6, l7] L2 St S = ev c 311 1883 [l0, l1, l2, l3, l4, l5, l6, l7] L2 (aI 1 :: St) S := ev_go i311_1882 rfl
theorem i311_1883 : insAt 311 1883 = some (.iadd, 1, (0, 0, 0, 0), 0) := rfl
theorem s311_1883 {c : Nat → List AV → SS → Option Out} {l0 l1 l2 l3 l4 l5 l6 l7 : Option AV} {x y : Int32} {L2 : List (Nat × AV)} {St : List AV} {S : SS} : ev c 311 1883 [l0, l1, l2, l3, l4, l5, l6, l7] L2 (aI y :: aI x :: St) S = ev c 311 1884 [l0, l1, l2, l3, l4, l5, l6, l7] L2 (aI (x + y) :: St) S := ev_go i311_1883 rfl
theorem i311_1884 : insAt 311 1884 = some (.iaload, 1, (0, 0, 0, 0), 0) := rfl
theorem s311_1884 {c : Nat → List AV → SS → Option Out} {l0 l1 l2 l3 l4 l5 l6 l7 : Option AV} {i : Int32} {o : OId} {L2 : List (Nat × AV)} {St : List AV} {S : SS} : ev c 311 1884 [l0, l1, l2, l3, l4, l5, l6, l7] L2 (aI i :: aR o :: St) S = kI o i (ev c 311 1885 [l0, l1, l2, l3, l4, l5, l6, l7] L2 (aI (agI S o i.toNatClampNeg) :: St) S) := ev_iaload i311_1884
theorem i311_1885 : insAt 311 1885 = some (.aload_n 0, 1, (0, 0, 0, 0), 0) := rfl
theorem s311_1885 {c : Nat → List AV → SS → Option Out} {l1 l2 l3 l4 l5 l6 l7 : Option AV} {o : OId} {L2 : List (Nat × AV)} {St : List AV} {S : SS} : ev c 311 1885 [some (aR o), l1, l2, l3, l4, l5, l6, l7] L2 St S = ev c 311 1886 [some (aR o), l1, l2, l3, l4, l5, l6, l7] L2 (aR o :: St) S := ev_go i311_1885 rfl
theorem i311_1886 : insAt 311 1886 = some (.iload 5, 2, (0, 0, 0, 0), 0) := rfl
theorem s311_1886 {c : Nat → List AV → SS → Option Out} {l0 l1 l2 l3 l4 l6 l7 : Option AV} {x : Int32} {L2 : List (Nat × AV)} {St : List AV} {S : SS} : ev c 311 1886 [l0, l1, l2, l3, l4, some (aI x), l6, l7] L2 St S = ev c 311 1888 [l0, l1, l2, l3, l4, some (aI x), l6, l7] L2 (aI x :: St) S := ev_go i311_1886 rfl
theorem i311_1888 : insAt 311 1888 = some (.iconst 2, 1, (0, 0, 0, 0), 0) := rfl
theorem s311_1888 {c : Nat → List AV → SS → Option Out} {l0 l1 l2 l3 l4 l5 l6 l7 : Option AV} {L2 : List (Nat × AV)} {St : List AV} {S : SS} : ev c 311 1888 [l0, l1, l2, l3, l4, l5, l6, l7] L2 St S = ev c 311 1889 [l0, l1, l2, l3, l4, l5, l6, l7] L2 (aI 2 :: St) S := ev_go i311_1888 rfl
theorem i311_1889 : insAt 311 1889 = some (.iadd, 1, (0, 0, 0, 0), 0) := rfl
theorem s311_1889 {c : Nat → List AV → SS → Option Out} {l0 l1 l2 l3 l4 l5 l6 l7 : Option AV} {x y : Int32} {L2 : List (Nat × AV)} {St : List AV} {S : SS} : ev c 311 1889 [l0, l1, l2, l3, l4, l5, l6, l7] L2 (aI y :: aI x :: St) S = ev c 311 1890 [l0, l1, l2, l3, l4, l5, l6, l7] L2 (aI (x + y) :: St) S := ev_go i311_1889 rfl
theorem i311_1890 : insAt 311 1890 = some (.iaload, 1, (0, 0, 0, 0), 0) := rfl
theorem s311_1890 {c : Nat → List AV → SS → Option Out} {l0 l1 l2 l3 l4 l5 l6 l7 : Option AV} {i : Int32} {o : OId} {L2 : List (Nat × AV)} {St : List AV} {S : SS} : ev c 311 1890 [l0, l1, l2, l3, l4, l5, l6, l7] L2 (aI i :: aR o :: St) S = kI o i (ev c 311 1891 [l0, l1, l2, l3, l4, l5, l6, l7] L2 (aI (agI S o i.toNatClampNeg) :: St) S) := ev_iaload i311_1890
theorem i311_1891 : insAt 311 1891 = some (.invokevirtual 261, 3, (284, 2, 2, 12), 505) := rfl
theorem s311_1891 {c : Nat → List AV → SS → Option Out} {l0 l1 l2 l3 l4 l5 l6 l7 : Option AV} {a0 : Int32} {a1 : Int32} {j t : Nat} {L2 : List (Nat × AV)} {S : SS} : ev c 311 1891 [l0, l1, l2, l3, l4, l5, l6, l7] L2 [aI a1, aI a0, aR (12, j, t)] S = ck (c 284 [aR (12, j, t), aI a0, aI a1] S) (fun v S' => ev c 311 1894 [l0, l1, l2, l3, l4, l5, l6, l7] L2 (v.toList ++ []) S') := ev_call i311_1891 rfl
theorem i311_1894 : insAt 311 1894 = some (.istore 7, 2, (0, 0, 0, 0), 0) := rfl
theorem s311_1894 {c : Nat → List AV → SS → Option Out} {l0 l1 l2 l3 l4 l5 l6 l7 : Option AV} {x : Int32} {L2 : List (Nat × AV)} {St : List AV} {S : SS} : ev c 311 1894 [l0, l1, l2, l3, l4, l5, l6, l7] L2 (aI x :: St) S = ev c 311 1896 [l0, l1, l2, l3, l4, l5, l6, some (aI x)] (kil L2 7) St S := ev_go i311_1894 rfl
theorem i311_1896 : insAt 311 1896 = some (.aload_n 2, 1, (0, 0, 0, 0), 0) := rfl
theorem s311_1896 {c : Nat → List AV → SS → Option Out} {l0 l1 l3 l4 l5 l6 l7 : Option AV} {o : OId} {L2 : List (Nat × AV)} {St : List AV} {S : SS} : ev c 311 1896 [l0, l1, some (aR o), l3, l4, l5, l6, l7] L2 St S = ev c 311 1897 [l0, l1, some (aR o), l3, l4, l5, l6, l7] L2 (aR o :: St) S := ev_go i311_1896 rfl
theorem i311_1897 : insAt 311 1897 = some (.invokevirtual 149, 3, (215, 0, 2, 12), 441) := rfl
theorem s311_1897 {c : Nat → List AV → SS → Option Out} {l0 l1 l2 l3 l4 l5 l6 l7 : Option AV} {j t : Nat} {L2 : List (Nat × AV)} {S : SS} : ev c 311 1897 [l0, l1, l2, l3, l4, l5, l6, l7] L2 [aR (12, j, t)] S = ck (c 215 [aR (12, j, t)] S) (fun v S' => ev c 311 1900 [l0, l1, l2, l3, l4, l5, l6, l7] L2 (v.toList ++ []) S') := ev_call i311_1897 rfl
theorem i311_1900 : insAt 311 1900 = some (.iload 6, 2, (0, 0, 0, 0), 0) := rfl
theorem s311_1900 {c : Nat → List AV → SS → Option Out} {l0 l1 l2 l3 l4 l5 l7 : Option AV} {x : Int32} {L2 : List (Nat × AV)} {St : List AV} {S : SS} : ev c 311 1900 [l0, l1, l2, l3, l4, l5, some (aI x), l7] L2 St S = ev c 311 1902 [l0, l1, l2, l3, l4, l5, some (aI x), l7] L2 (aI x :: St) S := ev_go i311_1900 rfl
theorem i311_1902 : insAt 311 1902 = some (.if_icmp .eq 5, 3, (0, 0, 0, 0), 0) := rfl
theorem s311_1902 {c : Nat → List AV → SS → Option Out} {l0 l1 l2 l3 l4 l5 l6 l7 : Option AV} {x y : Int32} {L2 : List (Nat × AV)} {St : List AV} {S : SS} : ev c 311 1902 [l0, l1, l2, l3, l4, l5, l6, l7] L2 (aI y :: aI x :: St) S = if x = y then ev c 311 1907 [l0, l1, l2, l3, l4, l5, l6, l7] L2 St S else ev c 311 1905 [l0, l1, l2, l3, l4, l5, l6, l7] L2 St S := ev_br i311_1902 rfl
theorem i311_1905 : insAt 311 1905 = some (.iconst 0, 1, (0, 0, 0, 0), 0) := rfl
theorem s311_1905 {c : Nat → List AV → SS → Option Out} {l0 l1 l2 l3 l4 l5 l6 l7 : Option AV} {L2 : List (Nat × AV)} {St : List AV} {S : SS} : ev c 311 1905 [l0, l1, l2, l3, l4, l5, l6, l7] L2 St S = ev c 311 1906 [l0, l1, l2, l3, l4, l5, l6, l7] L2 (aI 0 :: St) S := ev_go i311_1905 rfl
theorem i311_1906 : insAt 311 1906 = some (.ireturn, 1, (0, 0, 0, 0), 0) := rfl
theorem s311_1906 {c : Nat → List AV → SS → Option Out} {l0 l1 l2 l3 l4 l5 l6 l7 : Option AV} {x : Int32} {L2 : List (Nat × AV)} {S : SS} : ev c 311 1906 [l0, l1, l2, l3, l4, l5, l6, l7] L2 [aI x] S = if x = 0 ∨ x = 1 then some (.inl (some (aI x)), S) else none := ev_rt i311_1906 rfl
theorem i311_1907 : insAt 311 1907 = some (.iload 6, 2, (0, 0, 0, 0), 0) := rfl
theorem s311_1907 {c : Nat → List AV → SS → Option Out} {l0 l1 l2 l3 l4 l5 l7 : Option AV} {x : Int32} {L2 : List (Nat × AV)} {St : List AV} {S : SS} : ev c 311 1907 [l0, l1, l2, l3, l4, l5, some (aI x), l7] L2 St S = ev c 311 1909 [l0, l1, l2, l3, l4, l5, some (aI x), l7] L2 (aI x :: St) S := ev_go i311_1907 rfl
theorem i311_1909 : insAt 311 1909 = some (.ifCond .ne 15, 3, (0, 0, 0, 0), 0) := rfl
theorem s311_1909 {c : Nat → List AV → SS → Option Out} {l0 l1 l2 l3 l4 l5 l6 l7 : Option AV} {x : Int32} {L2 : List (Nat × AV)} {St : List AV} {S : SS} : ev c 311 1909 [l0, l1, l2, l3, l4, l5, l6, l7] L2 (aI x :: St) S = if x = 0 then ev c 311 1912 [l0, l1, l2, l3, l4, l5, l6, l7] L2 St S else ev c 311 1924 [l0, l1, l2, l3, l4, l5, l6, l7] L2 St S := (ev_br i311_1909 rfl).trans (ite_not _ _ _)
theorem i311_1912 : insAt 311 1912 = some (.aload_n 3, 1, (0, 0, 0, 0), 0) := rfl
theorem s311_1912 {c : Nat → List AV → SS → Option Out} {l0 l1 l2 l4 l5 l6 l7 : Option AV} {o : OId} {L2 : List (Nat × AV)} {St : List AV} {S : SS} : ev c 311 1912 [l0, l1, l2, some (aR o), l4, l5, l6, l7] L2 St S = ev c 311 1913 [l0, l1, l2, some (aR o), l4, l5, l6, l7] L2 (aR o :: St) S := ev_go i311_1912 rfl
theorem i311_1913 : insAt 311 1913 = some (.iconst 0, 1, (0, 0, 0, 0), 0) := rfl
theorem s311_1913 {c : Nat → List AV → SS → Option Out} {l0 l1 l2 l3 l4 l5 l6 l7 : Option AV} {L2 : List (Nat × AV)} {St : List AV} {S : SS} : ev c 311 1913 [l0, l1, l2, l3, l4, l5, l6, l7] L2 St S = ev c 311 1914 [l0, l1, l2, l3, l4, l5, l6, l7] L2 (aI 0 :: St) S := ev_go i311_1913 rfl
theorem i311_1914 : insAt 311 1914 = some (.laload, 1, (0, 0, 0, 0), 0) := rfl
theorem s311_1914 {c : Nat → List AV → SS → Option Out} {l0 l1 l2 l3 l4 l5 l6 l7 : Option AV} {i : Int32} {o : OId} {L2 : List (Nat × AV)} {St : List AV} {S : SS} : ev c 311 1914 [l0, l1, l2, l3, l4, l5, l6, l7] L2 (aI i :: aR o :: St) S = kJ o i (ev c 311 1915 [l0, l1, l2, l3, l4, l5, l6, l7] L2 (aL (toL (S.2.1 o i.toNatClampNeg)) :: St) S) := ev_laload i311_1914
theorem i311_1915 : insAt 311 1915 = some (.iload 7, 2, (0, 0, 0, 0), 0) := rfl
theorem s311_1915 {c : Nat → List AV → SS → Option Out} {l0 l1 l2 l3 l4 l5 l6 : Option AV} {x : Int32} {L2 : List (Nat × AV)} {St : List AV} {S : SS} : ev c 311 1915 [l0, l1, l2, l3, l4, l5, l6, some (aI x)] L2 St S = ev c 311 1917 [l0, l1, l2, l3, l4, l5, l6, some (aI x)] L2 (aI x :: St) S := ev_go i311_1915 rfl
theorem i311_1917 : insAt 311 1917 = some (.i2l, 1, (0, 0, 0, 0), 0) := rfl
theorem s311_1917 {c : Nat → List AV → SS → Option Out} {l0 l1 l2 l3 l4 l5 l6 l7 : Option AV} {x : Int32} {L2 : List (Nat × AV)} {St : List AV} {S : SS} : ev c 311 1917 [l0, l1, l2, l3, l4, l5, l6, l7] L2 (aI x :: St) S = ev c 311 1918 [l0, l1, l2, l3, l4, l5, l6, l7] L2 (aL x.toInt64 :: St) S := ev_go i311_1917 rfl
theorem i311_1918 : insAt 311 1918 = some (.lcmp, 1, (0, 0, 0, 0), 0) := rfl
theorem s311_1918 {c : Nat → List AV → SS → Option Out} {l0 l1 l2 l3 l4 l5 l6 l7 : Option AV} {x y : Int64} {L2 : List (Nat × AV)} {St : List AV} {S : SS} : ev c 311 1918 [l0, l1, l2, l3, l4, l5, l6, l7] L2 (aL y :: aL x :: St) S = ev c 311 1919 [l0, l1, l2, l3, l4, l5, l6, l7] L2 (aI (if x < y then -1 else if x = y then 0 else 1) :: St) S := ev_go i311_1918 rfl
theorem i311_1919 : insAt 311 1919 = some (.ifCond .eq 5, 3, (0, 0, 0, 0), 0) := rfl
theorem s311_1919 {c : Nat → List AV → SS → Option Out} {l0 l1 l2 l3 l4 l5 l6 l7 : Option AV} {x : Int32} {L2 : List (Nat × AV)} {St : List AV} {S : SS} : ev c 311 1919 [l0, l1, l2, l3, l4, l5, l6, l7] L2 (aI x :: St) S = if x = 0 then ev c 311 1924 [l0, l1, l2, l3, l4, l5, l6, l7] L2 St S else ev c 311 1922 [l0, l1, l2, l3, l4, l5, l6, l7] L2 St S := ev_br i311_1919 rfl
theorem i311_1922 : insAt 311 1922 = some (.iconst 0, 1, (0, 0, 0, 0), 0) := rfl
theorem s311_1922 {c : Nat → List AV → SS → Option Out} {l0 l1 l2 l3 l4 l5 l6 l7 : Option AV} {L2 : List (Nat × AV)} {St : List AV} {S : SS} : ev c 311 1922 [l0, l1, l2, l3, l4, l5, l6, l7] L2 St S = ev c 311 1923 [l0, l1, l2, l3, l4, l5, l6, l7] L2 (aI 0 :: St) S := ev_go i311_1922 rfl
theorem i311_1923 : insAt 311 1923 = some (.ireturn, 1, (0, 0, 0, 0), 0) := rfl
theorem s311_1923 {c : Nat → List AV → SS → Option Out} {l0 l1 l2 l3 l4 l5 l6 l7 : Option AV} {x : Int32} {L2 : List (Nat × AV)} {S : SS} : ev c 311 1923 [l0, l1, l2, l3, l4, l5, l6, l7] L2 [aI x] S = if x = 0 ∨ x = 1 then some (.inl (some (aI x)), S) else none := ev_rt i311_1923 rfl
theorem i311_1924 : insAt 311 1924 = some (.goto 875, 3, (0, 0, 0, 0), 0) := rfl
theorem s311_1924 {c : Nat → List AV → SS → Option Out} {l0 l1 l2 l3 l4 l5 l6 l7 : Option AV} {L2 : List (Nat × AV)} {St : List AV} {S : SS} : ev c 311 1924 [l0, l1, l2, l3, l4, l5, l6, l7] L2 St S = ev c 311 2799 [l0, l1, l2, l3, l4, l5, l6, l7] L2 St S := ev_go i311_1924 rfl
theorem i311_1927 : insAt 311 1927 = some (.aload_n 1, 1, (0, 0, 0, 0), 0) := rfl
theorem s311_1927 {c : Nat → List AV → SS → Option Out} {l0 l2 l3 l4 l5 l6 l7 : Option AV} {o : OId} {L2 : List (Nat × AV)} {St : List AV} {S : SS} : ev c 311 1927 [l0, some (aR o), l2, l3, l4, l5, l6, l7] L2 St S = ev c 311 1928 [l0, some (aR o), l2, l3, l4, l5, l6, l7] L2 (aR o :: St) S := ev_go i311_1927 rfl
theorem i311_1928 : insAt 311 1928 = some (.aload_n 0, 1, (0, 0, 0, 0), 0) := rfl
theorem s311_1928 {c : Nat → List AV → SS → Option Out} {l1 l2 l3 l4 l5 l6 l7 : Option AV} {o : OId} {L2 : List (Nat × AV)} {St : List AV} {S : SS} : ev c 311 1928 [some (aR o), l1, l2, l3, l4, l5, l6, l7] L2 St S = ev c 311 1929 [some (aR o), l1, l2, l3, l4, l5, l6, l7] L2 (aR o :: St) S := ev_go i311_1928 rfl
theorem i311_1929 : insAt 311 1929 = some (.iload 5, 2, (0, 0, 0, 0), 0) := rfl
theorem s311_1929 {c : Nat → List AV → SS → Option Out} {l0 l1 l2 l3 l4 l6 l7 : Option AV} {x : Int32} {L2 : List (Nat × AV)} {St : List AV} {S : SS} : ev c 311 1929 [l0, l1, l2, l3, l4, some (aI x), l6, l7] L2 St S = ev c 311 1931 [l0, l1, l2, l3, l4, some (aI x), l6, l7] L2 (aI x :: St) S := ev_go i311_1929 rfl
theorem i311_1931 : insAt 311 1931 = some (.iconst 1, 1, (0, 0, 0, 0), 0) := rfl
theorem s311_1931 {c : Nat → List AV → SS → Option Out} {l0 l1 l2 l3 l4 l5 l6 l7 : Option AV} {L2 : List (Nat × AV)} {St : List AV} {S : SS} : ev c 311 1931 [l0, l1, l2, l3, l4, l5, l6, l7] L2 St S = ev c 311 1932 [l0, l1, l2, l3, l4, l5, l6, l7] L2 (aI 1 :: St) S := ev_go i311_1931 rfl
theorem i311_1932 : insAt 311 1932 = some (.iadd, 1, (0, 0, 0, 0), 0) := rfl
theorem s311_1932 {c : Nat → List AV → SS → Option Out} {l0 l1 l2 l3 l4 l5 l6 l7 : Option AV} {x y : Int32} {L2 : List (Nat × AV)} {St : List AV} {S : SS} : ev c 311 1932 [l0, l1, l2, l3, l4, l5, l6, l7] L2 (aI y :: aI x :: St) S = ev c 311 1933 [l0, l1, l2, l3, l4, l5, l6, l7] L2 (aI (x + y) :: St) S := ev_go i311_1932 rfl
theorem i311_1933 : insAt 311 1933 = some (.iaload, 1, (0, 0, 0, 0), 0) := rfl
theorem s311_1933 {c : Nat → List AV → SS → Option Out} {l0 l1 l2 l3 l4 l5 l6 l7 : Option AV} {i : Int32} {o : OId} {L2 : List (Nat × AV)} {St : List AV} {S : SS} : ev c 311 1933 [l0, l1, l2, l3, l4, l5, l6, l7] L2 (aI i :: aR o :: St) S = kI o i (ev c 311 1934 [l0, l1, l2, l3, l4, l5, l6, l7] L2 (aI (agI S o i.toNatClampNeg) :: St) S) := ev_iaload i311_1933
theorem i311_1934 : insAt 311 1934 = some (.aload_n 0, 1, (0, 0, 0, 0), 0) := rfl
theorem s311_1934 {c : Nat → List AV → SS → Option Out} {l1 l2 l3 l4 l5 l6 l7 : Option AV} {o : OId} {L2 : List (Nat × AV)} {St : List AV} {S : SS} : ev c 311 1934 [some (aR o), l1, l2, l3, l4, l5, l6, l7] L2 St S = ev c 311 1935 [some (aR o), l1, l2, l3, l4, l5, l6, l7] L2 (aR o :: St) S := ev_go i311_1934 rfl
theorem i311_1935 : insAt 311 1935 = some (.iload 5, 2, (0, 0, 0, 0), 0) := rfl
theorem s311_1935 {c : Nat → List AV → SS → Option Out} {l0 l1 l2 l3 l4 l6 l7 : Option AV} {x : Int32} {L2 : List (Nat × AV)} {St : List AV} {S : SS} : ev c 311 1935 [l0, l1, l2, l3, l4, some (aI x), l6, l7] L2 St S = ev c 311 1937 [l0, l1, l2, l3, l4, some (aI x), l6, l7] L2 (aI x :: St) S := ev_go i311_1935 rfl
theorem i311_1937 : insAt 311 1937 = some (.iconst 2, 1, (0, 0, 0, 0), 0) := rfl
theorem s311_1937 {c : Nat → List AV → SS → Option Out} {l0 l1 l2 l3 l4 l5 l6 l7 : Option AV} {L2 : List (Nat × AV)} {St : List AV} {S : SS} : ev c 311 1937 [l0, l1, l2, l3, l4, l5, l6, l7] L2 St S = ev c 311 1938 [l0, l1, l2, l3, l4, l5, l6, l7] L2 (aI 2 :: St) S := ev_go i311_1937 rfl
theorem i311_1938 : insAt 311 1938 = some (.iadd, 1, (0, 0, 0, 0), 0) := rfl
theorem s311_1938 {c : Nat → List AV → SS → Option Out} {l0 l1 l2 l3 l4 l5 l6 l7 : Option AV} {x y : Int32} {L2 : List (Nat × AV)} {St : List AV} {S : SS} : ev c 311 1938 [l0, l1, l2, l3, l4, l5, l6, l7] L2 (aI y :: aI x :: St) S = ev c 311 1939 [l0, l1, l2, l3, l4, l5, l6, l7] L2 (aI (x + y) :: St) S := ev_go i311_1938 rfl
theorem i311_1939 : insAt 311 1939 = some (.iaload, 1, (0, 0, 0, 0), 0) := rfl
theorem s311_1939 {c : Nat → List AV → SS → Option Out} {l0 l1 l2 l3 l4 l5 l6 l7 : Option AV} {i : Int32} {o : OId} {L2 : List (Nat × AV)} {St : List AV} {S : SS} : ev c 311 1939 [l0, l1, l2, l3, l4, l5, l6, l7] L2 (aI i :: aR o :: St) S = kI o i (ev c 311 1940 [l0, l1, l2, l3, l4, l5, l6, l7] L2 (aI (agI S o i.toNatClampNeg) :: St) S) := ev_iaload i311_1939
theorem i311_1940 : insAt 311 1940 = some (.aload_n 3, 1, (0, 0, 0, 0), 0) := rfl
theorem s311_1940 {c : Nat → List AV → SS → Option Out} {l0 l1 l2 l4 l5 l6 l7 : Option AV} {o : OId} {L2 : List (Nat × AV)} {St : List AV} {S : SS} : ev c 311 1940 [l0, l1, l2, some (aR o), l4, l5, l6, l7] L2 St S = ev c 311 1941 [l0, l1, l2, some (aR o), l4, l5, l6, l7] L2 (aR o :: St) S := ev_go i311_1940 rfl
theorem i311_1941 : insAt 311 1941 = some (.invokestatic 262, 3, (138, 4, 0, 0), 506) := rfl
theorem s311_1941 {c : Nat → List AV → SS → Option Out} {l0 l1 l2 l3 l4 l5 l6 l7 : Option AV} {a0 : OId} {a1 : Int32} {a2 : Int32} {a3 : OId} {L2 : List (Nat × AV)} {S : SS} : ev c 311 1941 [l0, l1, l2, l3, l4, l5, l6, l7] L2 [aR a3, aI a2, aI a1, aR a0] S = ck (c 138 [aR a0, aI a1, aI a2, aR a3] S) (fun v S' => ev c 311 1944 [l0, l1, l2, l3, l4, l5, l6, l7] L2 (v.toList ++ []) S') := ev_call i311_1941 rfl
theorem i311_1944 : insAt 311 1944 = some (.istore 6, 2, (0, 0, 0, 0), 0) := rfl
theorem s311_1944 {c : Nat → List AV → SS → Option Out} {l0 l1 l2 l3 l4 l5 l6 l7 : Option AV} {x : Int32} {L2 : List (Nat × AV)} {St : List AV} {S : SS} : ev c 311 1944 [l0, l1, l2, l3, l4, l5, l6, l7] L2 (aI x :: St) S = ev c 311 1946 [l0, l1, l2, l3, l4, l5, some (aI x), l7] (kil L2 6) St S := ev_go i311_1944 rfl
theorem i311_1946 : insAt 311 1946 = some (.aload_n 2, 1, (0, 0, 0, 0), 0) := rfl
theorem s311_1946 {c : Nat → List AV → SS → Option Out} {l0 l1 l3 l4 l5 l6 l7 : Option AV} {o : OId} {L2 : List (Nat × AV)} {St : List AV} {S : SS} : ev c 311 1946 [l0, l1, some (aR o), l3, l4, l5, l6, l7] L2 St S = ev c 311 1947 [l0, l1, some (aR o), l3, l4, l5, l6, l7] L2 (aR o :: St) S := ev_go i311_1946 rfl
theorem i311_1947 : insAt 311 1947 = some (.aload_n 0, 1, (0, 0, 0, 0), 0) := rfl
theorem s311_1947 {c : Nat → List AV → SS → Option Out} {l1 l2 l3 l4 l5 l6 l7 : Option AV} {o : OId} {L2 : List (Nat × AV)} {St : List AV} {S : SS} : ev c 311 1947 [some (aR o), l1, l2, l3, l4, l5, l6, l7] L2 St S = ev c 311 1948 [some (aR o), l1, l2, l3, l4, l5, l6, l7] L2 (aR o :: St) S := ev_go i311_1947 rfl
theorem i311_1948 : insAt 311 1948 = some (.iload 5, 2, (0, 0, 0, 0), 0) := rfl
theorem s311_1948 {c : Nat → List AV → SS → Option Out} {l0 l1 l2 l3 l4 l6 l7 : Option AV} {x : Int32} {L2 : List (Nat × AV)} {St : List AV} {S : SS} : ev c 311 1948 [l0, l1, l2, l3, l4, some (aI x), l6, l7] L2 St S = ev c 311 1950 [l0, l1, l2, l3, l4, some (aI x), l6, l7] L2 (aI x :: St) S := ev_go i311_1948 rfl
theorem i311_1950 : insAt 311 1950 = some (.iconst 1, 1, (0, 0, 0, 0), 0) := rfl
theorem s311_1950 {c : Nat → List AV → SS → Option Out} {l0 l1 l2 l3 l4 l5 l6 l7 : Option AV} {L2 : List (Nat × AV)} {St : List AV} {S : SS} : ev c 311 1950 [l0, l1, l2, l3, l4, l5, l6, l7] L2 St S = ev c 311 1951 [l0, l1, l2, l3, l4, l5, l6, l7] L2 (aI 1 :: St) S := ev_go i311_1950 rfl
theorem i311_1951 : insAt 311 1951 = some (.iadd, 1, (0, 0, 0, 0), 0) := rfl
theorem s311_1951 {c : Nat → List AV → SS → Option Out} {l0 l1 l2 l3 l4 l5 l6 l7 : Option AV} {x y : Int32} {L2 : List (Nat × AV)} {St : List AV} {S : SS} : ev c 311 1951 [l0, l1, l2, l3, l4, l5, l6, l7] L2 (aI y :: aI x :: St) S = ev c 311 1952 [l0, l1, l2, l3, l4, l5, l6, l7] L2 (aI (x + y) :: St) S := ev_go i311_1951 rfl
theorem i311_1952 : insAt 311 1952 = some (.iaload, 1, (0, 0, 0, 0), 0) := rfl
theorem s311_1952 {c : Nat → List AV → SS → Option Out} {l0 l1 l2 l3 l4 l5 l6 l7 : Option AV} {i : Int32} {o : OId} {L2 : List (Nat × AV)} {St : List AV} {S : SS} : ev c 311 1952 [l0, l1, l2, l3, l4, l5, l6, l7] L2 (aI i :: aR o :: St) S = kI o i (ev c 311 1953 [l0, l1, l2, l3, l4, l5, l6, l7] L2 (aI (agI S o i.toNatClampNeg) :: St) S) := ev_iaload i311_1952
theorem i311_1953 : insAt 311 1953 = some (.aload_n 0, 1, (0, 0, 0, 0), 0) := rfl
theorem s311_1953 {c : Nat → List AV → SS → Option Out} {l1 l2 l3 l4 l5 l6 l7 : Option AV} {o : OId} {L2 : List (Nat × AV)} {St : List AV} {S : SS} : ev c 311 1953 [some (aR o), l1, l2, l3, l4, l5, l6, l7] L2 St S = ev c 311 1954 [some (aR o), l1, l2, l3, l4, l5, l6, l7] L2 (aR o :: St) S := ev_go i311_1953 rfl
theorem i311_1954 : insAt 311 1954 = some (.iload 5, 2, (0, 0, 0, 0), 0) := rfl
theorem s311_1954 {c : Nat → List AV → SS → Option Out} {l0 l1 l2 l3 l4 l6 l7 : Option AV} {x : Int32} {L2 : List (Nat × AV)} {St : List AV} {S : SS} : ev c 311 1954 [l0, l1, l2, l3, l4, some (aI x), l6, l7] L2 St S = ev c 311 1956 [l0, l1, l2, l3, l4, some (aI x), l6, l7] L2 (aI x :: St) S := ev_go i311_1954 rfl
theorem i311_1956 : insAt 311 1956 = some (.iconst 2, 1, (0, 0, 0, 0), 0) := rfl
theorem s311_1956 {c : Nat → List AV → SS → Option Out} {l0 l1 l2 l3 l4 l5 l6 l7 : Option AV} {L2 : List (Nat × AV)} {St : List AV} {S : SS} : ev c 311 1956 [l0, l1, l2, l3, l4, l5, l6, l7] L2 St S = ev c 311 1957 [l0, l1, l2, l3, l4, l5, l6, l7] L2 (aI 2 :: St) S := ev_go i311_1956 rfl
theorem i311_1957 : insAt 311 1957 = some (.iadd, 1, (0, 0, 0, 0), 0) := rfl
theorem s311_1957 {c : Nat → List AV → SS → Option Out} {l0 l1 l2 l3 l4 l5 l6 l7 : Option AV} {x y : Int32} {L2 : List (Nat × AV)} {St : List AV} {S : SS} : ev c 311 1957 [l0, l1, l2, l3, l4, l5, l6, l7] L2 (aI y :: aI x :: St) S = ev c 311 1958 [l0, l1, l2, l3, l4, l5, l6, l7] L2 (aI (x + y) :: St) S := ev_go i311_1957 rfl
theorem i311_1958 : insAt 311 1958 = some (.iaload, 1, (0, 0, 0, 0), 0) := rfl
theorem s311_1958 {c : Nat → List AV → SS → Option Out} {l0 l1 l2 l3 l4 l5 l6 l7 : Option AV} {i : Int32} {o : OId} {L2 : List (Nat × AV)} {St : List AV} {S : SS} : ev c 311 1958 [l0, l1, l2, l3, l4, l5, l6, l7] L2 (aI i :: aR o :: St) S = kI o i (ev c 311 1959 [l0, l1, l2, l3, l4, l5, l6, l7] L2 (aI (agI S o i.toNatClampNeg) :: St) S) := ev_iaload i311_1958
theorem i311_1959 : insAt 311 1959 = some (.invokevirtual 264, 3, (285, 2, 2, 12), 507) := rfl
theorem s311_1959 {c : Nat → List AV → SS → Option Out} {l0 l1 l2 l3 l4 l5 l6 l7 : Option AV} {a0 : Int32} {a1 : Int32} {j t : Nat} {L2 : List (Nat × AV)} {S : SS} : ev c 311 1959 [l0, l1, l2, l3, l4, l5, l6, l7] L2 [aI a1, aI a0, aR (12, j, t)] S = ck (c 285 [aR (12, j, t), aI a0, aI a1] S) (fun v S' => ev c 311 1962 [l0, l1, l2, l3, l4, l5, l6, l7] L2 (v.toList ++ []) S') := ev_call i311_1959 rfl
theorem i311_1962 : insAt 311 1962 = some (.istore 7, 2, (0, 0, 0, 0), 0) := rfl
theorem s311_1962 {c : Nat → List AV → SS → Option Out} {l0 l1 l2 l3 l4 l5 l6 l7 : Option AV} {x : Int32} {L2 : List (Nat × AV)} {St : List AV} {S : SS} : ev c 311 1962 [l0, l1, l2, l3, l4, l5, l6, l7] L2 (aI x :: St) S = ev c 311 1964 [l0, l1, l2, l3, l4, l5, l6, some (aI x)] (kil L2 7) St S := ev_go i311_1962 rfl
theorem i311_1964 : insAt 311 1964 = some (.aload_n 2, 1, (0, 0, 0, 0), 0) := rfl
theorem s311_1964 {c : Nat → List AV → SS → Option Out} {l0 l1 l3 l4 l5 l6 l7 : Option AV} {o : OId} {L2 : List (Nat × AV)} {St : List AV} {S : SS} : ev c 311 1964 [l0, l1, some (aR o), l3, l4, l5, l6, l7] L2 St S = ev c 311 1965 [l0, l1, some (aR o), l3, l4, l5, l6, l7] L2 (aR o :: St) S := ev_go i311_1964 rfl
theorem i311_1965 : insAt 311 1965 = some (.invokevirtual 149, 3, (215, 0, 2, 12), 441) := rfl
theorem s311_1965 {c : Nat → List AV → SS → Option Out} {l0 l1 l2 l3 l4 l5 l6 l7 : Option AV} {j t : Nat} {L2 : List (Nat × AV)} {S : SS} : ev c 311 1965 [l0, l1, l2, l3, l4, l5, l6, l7] L2 [aR (12, j, t)] S = ck (c 215 [aR (12, j, t)] S) (fun v S' => ev c 311 1968 [l0, l1, l2, l3, l4, l5, l6, l7] L2 (v.toList ++ []) S') := ev_call i311_1965 rfl
theorem i311_1968 : insAt 311 1968 = some (.iload 6, 2, (0, 0, 0, 0), 0) := rfl
theorem s311_1968 {c : Nat → List AV → SS → Option Out} {l0 l1 l2 l3 l4 l5 l7 : Option AV} {x : Int32} {L2 : List (Nat × AV)} {St : List AV} {S : SS} : ev c 311 1968 [l0, l1, l2, l3, l4, l5, some (aI x), l7] L2 St S = ev c 311 1970 [l0, l1, l2, l3, l4, l5, some (aI x), l7] L2 (aI x :: St) S := ev_go i311_1968 rfl
theorem i311_1970 : insAt 311 1970 = some (.if_icmp .eq 5, 3, (0, 0, 0, 0), 0) := rfl
theorem s311_1970 {c : Nat → List AV → SS → Option Out} {l0 l1 l2 l3 l4 l5 l6 l7 : Option AV} {x y : Int32} {L2 : List (Nat × AV)} {St : List AV} {S : SS} : ev c 311 1970 [l0, l1, l2, l3, l4, l5, l6, l7] L2 (aI y :: aI x :: St) S = if x = y then ev c 311 1975 [l0, l1, l2, l3, l4, l5, l6, l7] L2 St S else ev c 311 1973 [l0, l1, l2, l3, l4, l5, l6, l7] L2 St S := ev_br i311_1970 rfl
theorem i311_1973 : insAt 311 1973 = some (.iconst 0, 1, (0, 0, 0, 0), 0) := rfl
theorem s311_1973 {c : Nat → List AV → SS → Option Out} {l0 l1 l2 l3 l4 l5 l6 l7 : Option AV} {L2 : List (Nat × AV)} {St : List AV} {S : SS} : ev c 311 1973 [l0, l1, l2, l3, l4, l5, l6, l7] L2 St S = ev c 311 1974 [l0, l1, l2, l3, l4, l5, l6, l7] L2 (aI 0 :: St) S := ev_go i311_1973 rfl
theorem i311_1974 : insAt 311 1974 = some (.ireturn, 1, (0, 0, 0, 0), 0) := rfl
theorem s311_1974 {c : Nat → List AV → SS → Option Out} {l0 l1 l2 l3 l4 l5 l6 l7 : Option AV} {x : Int32} {L2 : List (Nat × AV)} {S : SS} : ev c 311 1974 [l0, l1, l2, l3, l4, l5, l6, l7] L2 [aI x] S = if x = 0 ∨ x = 1 then some (.inl (some (aI x)), S) else none := ev_rt i311_1974 rfl
theorem i311_1975 : insAt 311 1975 = some (.iload 6, 2, (0, 0, 0, 0), 0) := rfl
theorem s311_1975 {c : Nat → List AV → SS → Option Out} {l0 l1 l2 l3 l4 l5 l7 : Option AV} {x : Int32} {L2 : List (Nat × AV)} {St : List AV} {S : SS} : ev c 311 1975 [l0, l1, l2, l3, l4, l5, some (aI x), l7] L2 St S = ev c 311 1977 [l0, l1, l2, l3, l4, l5, some (aI x), l7] L2 (aI x :: St) S := ev_go i311_1975 rfl
theorem i311_1977 : insAt 311 1977 = some (.ifCond .ne 15, 3, (0, 0, 0, 0), 0) := rfl
theorem s311_1977 {c : Nat → List AV → SS → Option Out} {l0 l1 l2 l3 l4 l5 l6 l7 : Option AV} {x : Int32} {L2 : List (Nat × AV)} {St : List AV} {S : SS} : ev c 311 1977 [l0, l1, l2, l3, l4, l5, l6, l7] L2 (aI x :: St) S = if x = 0 then ev c 311 1980 [l0, l1, l2, l3, l4, l5, l6, l7] L2 St S else ev c 311 1992 [l0, l1, l2, l3, l4, l5, l6, l7] L2 St S := (ev_br i311_1977 rfl).trans (ite_not _ _ _)
theorem i311_1980 : insAt 311 1980 = some (.aload_n 3, 1, (0, 0, 0, 0), 0) := rfl
theorem s311_1980 {c : Nat → List AV → SS → Option Out} {l0 l1 l2 l4 l5 l6 l7 : Option AV} {o : OId} {L2 : List (Nat × AV)} {St : List AV} {S : SS} : ev c 311 1980 [l0, l1, l2, some (aR o), l4, l5, l6, l7] L2 St S = ev c 311 1981 [l0, l1, l2, some (aR o), l4, l5, l6, l7] L2 (aR o :: St) S := ev_go i311_1980 rfl
theorem i311_1981 : insAt 311 1981 = some (.iconst 0, 1, (0, 0, 0, 0), 0) := rfl
theorem s311_1981 {c : Nat → List AV → SS → Option Out} {l0 l1 l2 l3 l4 l5 l6 l7 : Option AV} {L2 : List (Nat × AV)} {St : List AV} {S : SS} : ev c 311 1981 [l0, l1, l2, l3, l4, l5, l6, l7] L2 St S = ev c 311 1982 [l0, l1, l2, l3, l4, l5, l6, l7] L2 (aI 0 :: St) S := ev_go i311_1981 rfl
theorem i311_1982 : insAt 311 1982 = some (.laload, 1, (0, 0, 0, 0), 0) := rfl
theorem s311_1982 {c : Nat → List AV → SS → Option Out} {l0 l1 l2 l3 l4 l5 l6 l7 : Option AV} {i : Int32} {o : OId} {L2 : List (Nat × AV)} {St : List AV} {S : SS} : ev c 311 1982 [l0, l1, l2, l3, l4, l5, l6, l7] L2 (aI i :: aR o :: St) S = kJ o i (ev c 311 1983 [l0, l1, l2, l3, l4, l5, l6, l7] L2 (aL (toL (S.2.1 o i.toNatClampNeg)) :: St) S) := ev_laload i311_1982
theorem i311_1983 : insAt 311 1983 = some (.iload 7, 2, (0, 0, 0, 0), 0) := rfl
theorem s311_1983 {c : Nat → List AV → SS → Option Out} {l0 l1 l2 l3 l4 l5 l6 : Option AV} {x : Int32} {L2 : List (Nat × AV)} {St : List AV} {S : SS} : ev c 311 1983 [l0, l1, l2, l3, l4, l5, l6, some (aI x)] L2 St S = ev c 311 1985 [l0, l1, l2, l3, l4, l5, l6, some (aI x)] L2 (aI x :: St) S := ev_go i311_1983 rfl
theorem i311_1985 : insAt 311 1985 = some (.i2l, 1, (0, 0, 0, 0), 0) := rfl
theorem s311_1985 {c : Nat → List AV → SS → Option Out} {l0 l1 l2 l3 l4 l5 l6 l7 : Option AV} {x : Int32} {L2 : List (Nat × AV)} {St : List AV} {S : SS} : ev c 311 1985 [l0, l1, l2, l3, l4, l5, l6, l7] L2 (aI x :: St) S = ev c 311 1986 [l0, l1, l2, l3, l4, l5, l6, l7] L2 (aL x.toInt64 :: St) S := ev_go i311_1985 rfl
theorem i311_1986 : insAt 311 1986 = some (.lcmp, 1, (0, 0, 0, 0), 0) := rfl
theorem s311_1986 {c : Nat → List AV → SS → Option Out} {l0 l1 l2 l3 l4 l5 l6 l7 : Option AV} {x y : Int64} {L2 : List (Nat × AV)} {St : List AV} {S : SS} : ev c 311 1986 [l0, l1, l2, l3, l4, l5, l6, l7] L2 (aL y :: aL x :: St) S = ev c 311 1987 [l0, l1, l2, l3, l4, l5, l6, l7] L2 (aI (if x < y then -1 else if x = y then 0 else 1) :: St) S := ev_go i311_1986 rfl
theorem i311_1987 : insAt 311 1987 = some (.ifCond .eq 5, 3, (0, 0, 0, 0), 0) := rfl
theorem s311_1987 {c : Nat → List AV → SS → Option Out} {l0 l1 l2 l3 l4 l5 l6 l7 : Option AV} {x : Int32} {L2 : List (Nat × AV)} {St : List AV} {S : SS} : ev c 311 1987 [l0, l1, l2, l3, l4, l5, l6, l7] L2 (aI x :: St) S = if x = 0 then ev c 311 1992 [l0, l1, l2, l3, l4, l5, l6, l7] L2 St S else ev c 311 1990 [l0, l1, l2, l3, l4, l5, l6, l7] L2 St S := ev_br i311_1987 rfl
theorem i311_1990 : insAt 311 1990 = some (.iconst 0, 1, (0, 0, 0, 0), 0) := rfl
theorem s311_1990 {c : Nat → List AV → SS → Option Out} {l0 l1 l2 l3 l4 l5 l6 l7 : Option AV} {L2 : List (Nat × AV)} {St : List AV} {S : SS} : ev c 311 1990 [l0, l1, l2, l3, l4, l5, l6, l7] L2 St S = ev c 311 1991 [l0, l1, l2, l3, l4, l5, l6, l7] L2 (aI 0 :: St) S := ev_go i311_1990 rfl
theorem i311_1991 : insAt 311 1991 = some (.ireturn, 1, (0, 0, 0, 0), 0) := rfl
theorem s311_1991 {c : Nat → List AV → SS → Option Out} {l0 l1 l2 l3 l4 l5 l6 l7 : Option AV} {x : Int32} {L2 : List (Nat × AV)} {S : SS} : ev c 311 1991 [l0, l1, l2, l3, l4, l5, l6, l7] L2 [aI x] S = if x = 0 ∨ x = 1 then some (.inl (some (aI x)), S) else none := ev_rt i311_1991 rfl
theorem i311_1992 : insAt 311 1992 = some (.goto 807, 3, (0, 0, 0, 0), 0) := rfl
theorem s311_1992 {c : Nat → List AV → SS → Option Out} {l0 l1 l2 l3 l4 l5 l6 l7 : Option AV} {L2 : List (Nat × AV)} {St : List AV} {S : SS} : ev c 311 1992 [l0, l1, l2, l3, l4, l5, l6, l7] L2 St S = ev c 311 2799 [l0, l1, l2, l3, l4, l5, l6, l7] L2 St S := ev_go i311_1992 rfl
theorem i311_1995 : insAt 311 1995 = some (.aload_n 1, 1, (0, 0, 0, 0), 0) := rfl
theorem s311_1995 {c : Nat → List AV → SS → Option Out} {l0 l2 l3 l4 l5 l6 l7 : Option AV} {o : OId} {L2 : List (Nat × AV)} {St : List AV} {S : SS} : ev c 311 1995 [l0, some (aR o), l2, l3, l4, l5, l6, l7] L2 St S = ev c 311 1996 [l0, some (aR o), l2, l3, l4, l5, l6, l7] L2 (aR o :: St) S := ev_go i311_1995 rfl
theorem i311_1996 : insAt 311 1996 = some (.aload_n 0, 1, (0, 0, 0, 0), 0) := rfl
theorem s311_1996 {c : Nat → List AV → SS → Option Out} {l1 l2 l3 l4 l5 l6 l7 : Option AV} {o : OId} {L2 : List (Nat × AV)} {St : List AV} {S : SS} : ev c 311 1996 [some (aR o), l1, l2, l3, l4, l5, l6, l7] L2 St S = ev c 311 1997 [some (aR o), l1, l2, l3, l4, l5, l6, l7] L2 (aR o :: St) S := ev_go i311_1996 rfl
theorem i311_1997 : insAt 311 1997 = some (.iload 5, 2, (0, 0, 0, 0), 0) := rfl
theorem s311_1997 {c : Nat → List AV → SS → Option Out} {l0 l1 l2 l3 l4 l6 l7 : Option AV} {x : Int32} {L2 : List (Nat × AV)} {St : List AV} {S : SS} : ev c 311 1997 [l0, l1, l2, l3, l4, some (aI x), l6, l7] L2 St S = ev c 311 1999 [l0, l1, l2, l3, l4, some (aI x), l6, l7] L2 (aI x :: St) S := ev_go i311_1997 rfl
theorem i311_1999 : insAt 311 1999 = some (.iconst 1, 1, (0, 0, 0, 0), 0) := rfl
theorem s311_1999 {c : Nat → List AV → SS → Option Out} {l0 l1 l2 l3 l4 l5 l6 l7 : Option AV} {L2 : List (Nat × AV)} {St : List AV} {S : SS} : ev c 311 1999 [l0, l1, l2, l3, l4, l5, l6, l7] L2 St S = ev c 311 2000 [l0, l1, l2, l3, l4, l5, l6, l7] L2 (aI 1 :: St) S := ev_go i311_1999 rfl
theorem i311_2000 : insAt 311 2000 = some (.iadd, 1, (0, 0, 0, 0), 0) := rfl
theorem s311_2000 {c : Nat → List AV → SS → Option Out} {l0 l1 l2 l3 l4 l5 l6 l7 : Option AV} {x y : Int32} {L2 : List (Nat × AV)} {St : List AV} {S : SS} : ev c 311 2000 [l0, l1, l2, l3, l4, l5, l6, l7] L2 (aI y :: aI x :: St) S = ev c 311 2001 [l0, l1, l2, l3, l4, l5, l6, l7] L2 (aI (x + y) :: St) S := ev_go i311_2000 rfl
theorem i311_2001 : insAt 311 2001 = some (.iaload, 1, (0, 0, 0, 0), 0) := rfl
theorem s311_2001 {c : Nat → List AV → SS → Option Out} {l0 l1 l2 l3 l4 l5 l6 l7 : Option AV} {i : Int32} {o : OId} {L2 : List (Nat × AV)} {St : List AV} {S : SS} : ev c 311 2001 [l0, l1, l2, l3, l4, l5, l6, l7] L2 (aI i :: aR o :: St) S = kI o i (ev c 311 2002 [l0, l1, l2, l3, l4, l5, l6, l7] L2 (aI (agI S o i.toNatClampNeg) :: St) S) := ev_iaload i311_2001
theorem i311_2002 : insAt 311 2002 = some (.aload_n 0, 1, (0, 0, 0, 0), 0) := rfl
theorem s311_2002 {c : Nat → List AV → SS → Option Out} {l1 l2 l3 l4 l5 l6 l7 : Option AV} {o : OId} {L2 : List (Nat × AV)} {St : List AV} {S : SS} : ev c 311 2002 [some (aR o), l1, l2, l3, l4, l5, l6, l7] L2 St S = ev c 311 2003 [some (aR o), l1, l2, l3, l4, l5, l6, l7] L2 (aR o :: St) S := ev_go i311_2002 rfl
theorem i311_2003 : insAt 311 2003 = some (.iload 5, 2, (0, 0, 0, 0), 0) := rfl
theorem s311_2003 {c : Nat → List AV → SS → Option Out} {l0 l1 l2 l3 l4 l6 l7 : Option AV} {x : Int32} {L2 : List (Nat × AV)} {St : List AV} {S : SS} : ev c 311 2003 [l0, l1, l2, l3, l4, some (aI x), l6, l7] L2 St S = ev c 311 2005 [l0, l1, l2, l3, l4, some (aI x), l6, l7] L2 (aI x :: St) S := ev_go i311_2003 rfl
theorem i311_2005 : insAt 311 2005 = some (.iconst 2, 1, (0, 0, 0, 0), 0) := rfl
theorem s311_2005 {c : Nat → List AV → SS → Option Out} {l0 l1 l2 l3 l4 l5 l6 l7 : Option AV} {L2 : List (Nat × AV)} {St : List AV} {S : SS} : ev c 311 2005 [l0, l1, l2, l3, l4, l5, l6, l7] L2 St S = ev c 311 2006 [l0, l1, l2, l3, l4, l5, l6, l7] L2 (aI 2 :: St) S := ev_go i311_2005 rfl
theorem i311_2006 : insAt 311 2006 = some (.iadd, 1, (0, 0, 0, 0), 0) := rfl
theorem s311_2006 {c : Nat → List AV → SS → Option Out} {l0 l1 l2 l3 l4 l5 l6 l7 : Option AV} {x y : Int32} {L2 : List (Nat × AV)} {St : List AV} {S : SS} : ev c 311 2006 [l0, l1, l2, l3, l4, l5, l6, l7] L2 (aI y :: aI x :: St) S = ev c 311 2007 [l0, l1, l2, l3, l4, l5, l6, l7] L2 (aI (x + y) :: St) S := ev_go i311_2006 rfl
theorem i311_2007 : insAt 311 2007 = some (.iaload, 1, (0, 0, 0, 0), 0) := rfl
theorem s311_2007 {c : Nat → List AV → SS → Option Out} {l0 l1 l2 l3 l4 l5 l6 l7 : Option AV} {i : Int32} {o : OId} {L2 : List (Nat × AV)} {St : List AV} {S : SS} : ev c 311 2007 [l0, l1, l2, l3, l4, l5, l6, l7] L2 (aI i :: aR o :: St) S = kI o i (ev c 311 2008 [l0, l1, l2, l3, l4, l5, l6, l7] L2 (aI (agI S o i.toNatClampNeg) :: St) S) := ev_iaload i311_2007
theorem i311_2008 : insAt 311 2008 = some (.aload_n 3, 1, (0, 0, 0, 0), 0) := rfl
theorem s311_2008 {c : Nat → List AV → SS → Option Out} {l0 l1 l2 l4 l5 l6 l7 : Option AV} {o : OId} {L2 : List (Nat × AV)} {St : List AV} {S : SS} : ev c 311 2008 [l0, l1, l2, some (aR o), l4, l5, l6, l7] L2 St S = ev c 311 2009 [l0, l1, l2, some (aR o), l4, l5, l6, l7] L2 (aR o :: St) S := ev_go i311_2008 rfl
theorem i311_2009 : insAt 311 2009 = some (.invokestatic 265, 3, (140, 4, 0, 0), 508) := rfl
theorem s311_2009 {c : Nat → List AV → SS → Option Out} {l0 l1 l2 l3 l4 l5 l6 l7 : Option AV} {a0 : OId} {a1 : Int32} {a2 : Int32} {a3 : OId} {L2 : List (Nat × AV)} {S : SS} : ev c 311 2009 [l0, l1, l2, l3, l4, l5, l6, l7] L2 [aR a3, aI a2, aI a1, aR a0] S = ck (c 140 [aR a0, aI a1, aI a2, aR a3] S) (fun v S' => ev c 311 2012 [l0, l1, l2, l3, l4, l5, l6, l7] L2 (v.toList ++ []) S') := ev_call i311_2009 rfl
theorem i311_2012 : insAt 311 2012 = some (.istore 6, 2, (0, 0, 0, 0), 0) := rfl
theorem s311_2012 {c : Nat → List AV → SS → Option Out} {l0 l1 l2 l3 l4 l5 l6 l7 : Option AV} {x : Int32} {L2 : List (Nat × AV)} {St : List AV} {S : SS} : ev c 311 2012 [l0, l1, l2, l3, l4, l5, l6, l7] L2 (aI x :: St) S = ev c 311 2014 [l0, l1, l2, l3, l4, l5, some (aI x), l7] (kil L2 6) St S := ev_go i311_2012 rfl
theorem i311_2014 : insAt 311 2014 = some (.aload_n 2, 1, (0, 0, 0, 0), 0) := rfl
theorem s311_2014 {c : Nat → List AV → SS → Option Out} {l0 l1 l3 l4 l5 l6 l7 : Option AV} {o : OId} {L2 : List (Nat × AV)} {St : List AV} {S : SS} : ev c 311 2014 [l0, l1, some (aR o), l3, l4, l5, l6, l7] L2 St S = ev c 311 2015 [l0, l1, some (aR o), l3, l4, l5, l6, l7] L2 (aR o :: St) S := ev_go i311_2014 rfl
theorem i311_2015 : insAt 311 2015 = some (.aload_n 0, 1, (0, 0, 0, 0), 0) := rfl
theorem s311_2015 {c : Nat → List AV → SS → Option Out} {l1 l2 l3 l4 l5 l6 l7 : Option AV} {o : OId} {L2 : List (Nat × AV)} {St : List AV} {S : SS} : ev c 311 2015 [some (aR o), l1, l2, l3, l4, l5, l6, l7] L2 St S = ev c 311 2016 [some (aR o), l1, l2, l3, l4, l5, l6, l7] L2 (aR o :: St) S := ev_go i311_2015 rfl
theorem i311_2016 : insAt 311 2016 = some (.iload 5, 2, (0, 0, 0, 0), 0) := rfl
theorem s311_2016 {c : Nat → List AV → SS → Option Out} {l0 l1 l2 l3 l4 l6 l7 : Option AV} {x : Int32} {L2 : List (Nat × AV)} {St : List AV} {S : SS} : ev c 311 2016 [l0, l1, l2, l3, l4, some (aI x), l6, l7] L2 St S = ev c 311 2018 [l0, l1, l2, l3, l4, some (aI x), l6, l7] L2 (aI x :: St) S := ev_go i311_2016 rfl
theorem i311_2018 : insAt 311 2018 = some (.iconst 1, 1, (0, 0, 0, 0), 0) := rfl
theorem s311_2018 {c : Nat → List AV → SS → Option Out} {l0 l1 l2 l3 l4 l5 l6 l7 : Option AV} {L2 : List (Nat × AV)} {St : List AV} {S : SS} : ev c 311 2018 [l0, l1, l2, l3, l4, l5, l6, l7] L2 St S = ev c 311 2019 [l0, l1, l2, l3, l4, l5, l6, l7] L2 (aI 1 :: St) S := ev_go i311_2018 rfl
theorem i311_2019 : insAt 311 2019 = some (.iadd, 1, (0, 0, 0, 0), 0) := rfl
theorem s311_2019 {c : Nat → List AV → SS → Option Out} {l0 l1 l2 l3 l4 l5 l6 l7 : Option AV} {x y : Int32} {L2 : List (Nat × AV)} {St : List AV} {S : SS} : ev c 311 2019 [l0, l1, l2, l3, l4, l5, l6, l7] L2 (aI y :: aI x :: St) S = ev c 311 2020 [l0, l1, l2, l3, l4, l5, l6, l7] L2 (aI (x + y) :: St) S := ev_go i311_2019 rfl
theorem i311_2020 : insAt 311 2020 = some (.iaload, 1, (0, 0, 0, 0), 0) := rfl
theorem s311_2020 {c : Nat → List AV → SS → Option Out} {l0 l1 l2 l3 l4 l5 l6 l7 : Option AV} {i : Int32} {o : OId} {L2 : List (Nat × AV)} {St : List AV} {S : SS} : ev c 311 2020 [l0, l1, l2, l3, l4, l5, l6, l7] L2 (aI i :: aR o :: St) S = kI o i (ev c 311 2021 [l0, l1, l2, l3, l4, l5, l6, l7] L2 (aI (agI S o i.toNatClampNeg) :: St) S) := ev_iaload i311_2020
theorem i311_2021 : insAt 311 2021 = some (.aload_n 0, 1, (0, 0, 0, 0), 0) := rfl
theorem s311_2021 {c : Nat → List AV → SS → Option Out} {l1 l2 l3 l4 l5 l6 l7 : Option AV} {o : OId} {L2 : List (Nat × AV)} {St : List AV} {S : SS} : ev c 311 2021 [some (aR o), l1, l2, l3, l4, l5, l6, l7] L2 St S = ev c 311 2022 [some (aR o), l1, l2, l3, l4, l5, l6, l7] L2 (aR o :: St) S := ev_go i311_2021 rfl
theorem i311_2022 : insAt 311 2022 = some (.iload 5, 2, (0, 0, 0, 0), 0) := rfl
theorem s311_2022 {c : Nat → List AV → SS → Option Out} {l0 l1 l2 l3 l4 l6 l7 : Option AV} {x : Int32} {L2 : List (Nat × AV)} {St : List AV} {S : SS} : ev c 311 2022 [l0, l1, l2, l3, l4, some (aI x), l6, l7] L2 St S = ev c 311 2024 [l0, l1, l2, l3, l4, some (aI x), l6, l7] L2 (aI x :: St) S := ev_go i311_2022 rfl
theorem i311_2024 : insAt 311 2024 = some (.iconst 2, 1, (0, 0, 0, 0), 0) := rfl
theorem s311_2024 {c : Nat → List AV → SS → Option Out} {l0 l1 l2 l3 l4 l5 l6 l7 : Option AV} {L2 : List (Nat × AV)} {St : List AV} {S : SS} : ev c 311 2024 [l0, l1, l2, l3, l4, l5, l6, l7] L2 St S = ev c 311 2025 [l0, l1, l2, l3, l4, l5, l6, l7] L2 (aI 2 :: St) S := ev_go i311_2024 rfl
theorem i311_2025 : insAt 311 2025 = some (.iadd, 1, (0, 0, 0, 0), 0) := rfl
theorem s311_2025 {c : Nat → List AV → SS → Option Out} {l0 l1 l2 l3 l4 l5 l6 l7 : Option AV} {x y : Int32} {L2 : List (Nat × AV)} {St : List AV} {S : SS} : ev c 311 2025 [l0, l1, l2, l3, l4, l5, l6, l7] L2 (aI y :: aI x :: St) S = ev c 311 2026 [l0, l1, l2, l3, l4, l5, l6, l7] L2 (aI (x + y) :: St) S := ev_go i311_2025 rfl
theorem i311_2026 : insAt 311 2026 = some (.iaload, 1, (0, 0, 0, 0), 0) := rfl
theorem s311_2026 {c : Nat → List AV → SS → Option Out} {l0 l1 l2 l3 l4 l5 l6 l7 : Option AV} {i : Int32} {o : OId} {L2 : List (Nat × AV)} {St : List AV} {S : SS} : ev c 311 2026 [l0, l1, l2, l3, l4, l5, l6, l7] L2 (aI i :: aR o :: St) S = kI o i (ev c 311 2027 [l0, l1, l2, l3, l4, l5, l6, l7] L2 (aI (agI S o i.toNatClampNeg) :: St) S) := ev_iaload i311_2026
theorem i311_2027 : insAt 311 2027 = some (.invokevirtual 267, 3, (286, 2, 2, 12), 509) := rfl
theorem s311_2027 {c : Nat → List AV → SS → Option Out} {l0 l1 l2 l3 l4 l5 l6 l7 : Option AV} {a0 : Int32} {a1 : Int32} {j t : Nat} {L2 : List (Nat × AV)} {S : SS} : ev c 311 2027 [l0, l1, l2, l3, l4, l5, l6, l7] L2 [aI a1, aI a0, aR (12, j, t)] S = ck (c 286 [aR (12, j, t), aI a0, aI a1] S) (fun v S' => ev c 311 2030 [l0, l1, l2, l3, l4, l5, l6, l7] L2 (v.toList ++ []) S') := ev_call i311_2027 rfl
theorem i311_2030 : insAt 311 2030 = some (.istore 7, 2, (0, 0, 0, 0), 0) := rfl
theorem s311_2030 {c : Nat → List AV → SS → Option Out} {l0 l1 l2 l3 l4 l5 l6 l7 : Option AV} {x : Int32} {L2 : List (Nat × AV)} {St : List AV} {S : SS} : ev c 311 2030 [l0, l1, l2, l3, l4, l5, l6, l7] L2 (aI x :: St) S = ev c 311 2032 [l0, l1, l2, l3, l4, l5, l6, some (aI x)] (kil L2 7) St S := ev_go i311_2030 rfl
theorem i311_2032 : insAt 311 2032 = some (.aload_n 2, 1, (0, 0, 0, 0), 0) := rfl
theorem s311_2032 {c : Nat → List AV → SS → Option Out} {l0 l1 l3 l4 l5 l6 l7 : Option AV} {o : OId} {L2 : List (Nat × AV)} {St : List AV} {S : SS} : ev c 311 2032 [l0, l1, some (aR o), l3, l4, l5, l6, l7] L2 St S = ev c 311 2033 [l0, l1, some (aR o), l3, l4, l5, l6, l7] L2 (aR o :: St) S := ev_go i311_2032 rfl
theorem i311_2033 : insAt 311 2033 = some (.invokevirtual 149, 3, (215, 0, 2, 12), 441) := rfl
theorem s311_2033 {c : Nat → List AV → SS → Option Out} {l0 l1 l2 l3 l4 l5 l6 l7 : Option AV} {j t : Nat} {L2 : List (Nat × AV)} {S : SS} : ev c 311 2033 [l0, l1, l2, l3, l4, l5, l6, l7] L2 [aR (12, j, t)] S = ck (c 215 [aR (12, j, t)] S) (fun v S' => ev c 311 2036 [l0, l1, l2, l3, l4, l5, l6, l7] L2 (v.toList ++ []) S') := ev_call i311_2033 rfl
theorem i311_2036 : insAt 311 2036 = some (.iload 6, 2, (0, 0, 0, 0), 0) := rfl
theorem s311_2036 {c : Nat → List AV → SS → Option Out} {l0 l1 l2 l3 l4 l5 l7 : Option AV} {x : Int32} {L2 : List (Nat × AV)} {St : List AV} {S : SS} : ev c 311 2036 [l0, l1, l2, l3, l4, l5, some (aI x), l7] L2 St S = ev c 311 2038 [l0, l1, l2, l3, l4, l5, some (aI x), l7] L2 (aI x :: St) S := ev_go i311_2036 rfl
theorem i311_2038 : insAt 311 2038 = some (.if_icmp .eq 5, 3, (0, 0, 0, 0), 0) := rfl
theorem s311_2038 {c : Nat → List AV → SS → Option Out} {l0 l1 l2 l3 l4 l5 l6 l7 : Option AV} {x y : Int32} {L2 : List (Nat × AV)} {St : List AV} {S : SS} : ev c 311 2038 [l0, l1, l2, l3, l4, l5, l6, l7] L2 (aI y :: aI x :: St) S = if x = y then ev c 311 2043 [l0, l1, l2, l3, l4, l5, l6, l7] L2 St S else ev c 311 2041 [l0, l1, l2, l3, l4, l5, l6, l7] L2 St S := ev_br i311_2038 rfl
theorem i311_2041 : insAt 311 2041 = some (.iconst 0, 1, (0, 0, 0, 0), 0) := rfl
theorem s311_2041 {c : Nat → List AV → SS → Option Out} {l0 l1 l2 l3 l4 l5 l6 l7 : Option AV} {L2 : List (Nat × AV)} {St : List AV} {S : SS} : ev c 311 2041 [l0, l1, l2, l3, l4, l5, l6, l7] L2 St S = ev c 311 2042 [l0, l1, l2, l3, l4, l5, l6, l7] L2 (aI 0 :: St) S := ev_go i311_2041 rfl
theorem i311_2042 : insAt 311 2042 = some (.ireturn, 1, (0, 0, 0, 0), 0) := rfl
theorem s311_2042 {c : Nat → List AV → SS → Option Out} {l0 l1 l2 l3 l4 l5 l6 l7 : Option AV} {x : Int32} {L2 : List (Nat × AV)} {S : SS} : ev c 311 2042 [l0, l1, l2, l3, l4, l5, l6, l7] L2 [aI x] S = if x = 0 ∨ x = 1 then some (.inl (some (aI x)), S) else none := ev_rt i311_2042 rfl
theorem i311_2043 : insAt 311 2043 = some (.iload 6, 2, (0, 0, 0, 0), 0) := rfl
theorem s311_2043 {c : Nat → List AV → SS → Option Out} {l0 l1 l2 l3 l4 l5 l7 : Option AV} {x : Int32} {L2 : List (Nat × AV)} {St : List AV} {S : SS} : ev c 311 2043 [l0, l1, l2, l3, l4, l5, some (aI x), l7] L2 St S = ev c 311 2045 [l0, l1, l2, l3, l4, l5, some (aI x), l7] L2 (aI x :: St) S := ev_go i311_2043 rfl
theorem i311_2045 : insAt 311 2045 = some (.ifCond .ne 15, 3, (0, 0, 0, 0), 0) := rfl
theorem s311_2045 {c : Nat → List AV → SS → Option Out} {l0 l1 l2 l3 l4 l5 l6 l7 : Option AV} {x : Int32} {L2 : List (Nat × AV)} {St : List AV} {S : SS} : ev c 311 2045 [l0, l1, l2, l3, l4, l5, l6, l7] L2 (aI x :: St) S = if x = 0 then ev c 311 2048 [l0, l1, l2, l3, l4, l5, l6, l7] L2 St S else ev c 311 2060 [l0, l1, l2, l3, l4, l5, l6, l7] L2 St S := (ev_br i311_2045 rfl).trans (ite_not _ _ _)
theorem i311_2048 : insAt 311 2048 = some (.aload_n 3, 1, (0, 0, 0, 0), 0) := rfl
theorem s311_2048 {c : Nat → List AV → SS → Option Out} {l0 l1 l2 l4 l5 l6 l7 : Option AV} {o : OId} {L2 : List (Nat × AV)} {St : List AV} {S : SS} : ev c 311 2048 [l0, l1, l2, some (aR o), l4, l5, l6, l7] L2 St S = ev c 311 2049 [l0, l1, l2, some (aR o), l4, l5, l6, l7] L2 (aR o :: St) S := ev_go i311_2048 rfl
theorem i311_2049 : insAt 311 2049 = some (.iconst 0, 1, (0, 0, 0, 0), 0) := rfl
theorem s311_2049 {c : Nat → List AV → SS → Option Out} {l0 l1 l2 l3 l4 l5 l6 l7 : Option AV} {L2 : List (Nat × AV)} {St : List AV} {S : SS} : ev c 311 2049 [l0, l1, l2, l3, l4, l5, l6, l7] L2 St S = ev c 311 2050 [l0, l1, l2, l3, l4, l5, l6, l7] L2 (aI 0 :: St) S := ev_go i311_2049 rfl
theorem i311_2050 : insAt 311 2050 = some (.laload, 1, (0, 0, 0, 0), 0) := rfl
theorem s311_2050 {c : Nat → List AV → SS → Option Out} {l0 l1 l2 l3 l4 l5 l6 l7 : Option AV} {i : Int32} {o : OId} {L2 : List (Nat × AV)} {St : List AV} {S : SS} : ev c 311 2050 [l0, l1, l2, l3, l4, l5, l6, l7] L2 (aI i :: aR o :: St) S = kJ o i (ev c 311 2051 [l0, l1, l2, l3, l4, l5, l6, l7] L2 (aL (toL (S.2.1 o i.toNatClampNeg)) :: St) S) := ev_laload i311_2050
theorem i311_2051 : insAt 311 2051 = some (.iload 7, 2, (0, 0, 0, 0), 0) := rfl
theorem s311_2051 {c : Nat → List AV → SS → Option Out} {l0 l1 l2 l3 l4 l5 l6 : Option AV} {x : Int32} {L2 : List (Nat × AV)} {St : List AV} {S : SS} : ev c 311 2051 [l0, l1, l2, l3, l4, l5, l6, some (aI x)] L2 St S = ev c 311 2053 [l0, l1, l2, l3, l4, l5, l6, some (aI x)] L2 (aI x :: St) S := ev_go i311_2051 rfl
theorem i311_2053 : insAt 311 2053 = some (.i2l, 1, (0, 0, 0, 0), 0) := rfl
theorem s311_2053 {c : Nat → List AV → SS → Option Out} {l0 l1 l2 l3 l4 l5 l6 l7 : Option AV} {x : Int32} {L2 : List (Nat × AV)} {St : List AV} {S : SS} : ev c 311 2053 [l0, l1, l2, l3, l4, l5, l6, l7] L2 (aI x :: St) S = ev c 311 2054 [l0, l1, l2, l3, l4, l5, l6, l7] L2 (aL x.toInt64 :: St) S := ev_go i311_2053 rfl
theorem i311_2054 : insAt 311 2054 = some (.lcmp, 1, (0, 0, 0, 0), 0) := rfl
theorem s311_2054 {c : Nat → List AV → SS → Option Out} {l0 l1 l2 l3 l4 l5 l6 l7 : Option AV} {x y : Int64} {L2 : List (Nat × AV)} {St : List AV} {S : SS} : ev c 311 2054 [l0, l1, l2, l3, l4, l5, l6, l7] L2 (aL y :: aL x :: St) S = ev c 311 2055 [l0, l1, l2, l3, l4, l5, l6, l7] L2 (aI (if x < y then -1 else if x = y then 0 else 1) :: St) S := ev_go i311_2054 rfl
theorem i311_2055 : insAt 311 2055 = some (.ifCond .eq 5, 3, (0, 0, 0, 0), 0) := rfl
theorem s311_2055 {c : Nat → List AV → SS → Option Out} {l0 l1 l2 l3 l4 l5 l6 l7 : Option AV} {x : Int32} {L2 : List (Nat × AV)} {St : List AV} {S : SS} : ev c 311 2055 [l0, l1, l2, l3, l4, l5, l6, l7] L2 (aI x :: St) S = if x = 0 then ev c 311 2060 [l0, l1, l2, l3, l4, l5, l6, l7] L2 St S else ev c 311 2058 [l0, l1, l2, l3, l4, l5, l6, l7] L2 St S := ev_br i311_2055 rfl
theorem i311_2058 : insAt 311 2058 = some (.iconst 0, 1, (0, 0, 0, 0), 0) := rfl
theorem s311_2058 {c : Nat → List AV → SS → Option Out} {l0 l1 l2 l3 l4 l5 l6 l7 : Option AV} {L2 : List (Nat × AV)} {St : List AV} {S : SS} : ev c 311 2058 [l0, l1, l2, l3, l4, l5, l6, l7] L2 St S = ev c 311 2059 [l0, l1, l2, l3, l4, l5, l6, l7] L2 (aI 0 :: St) S := ev_go i311_2058 rfl
theorem i311_2059 : insAt 311 2059 = some (.ireturn, 1, (0, 0, 0, 0), 0) := rfl
theorem s311_2059 {c : Nat → List AV → SS → Option Out} {l0 l1 l2 l3 l4 l5 l6 l7 : Option AV} {x : Int32} {L2 : List (Nat × AV)} {S : SS} : ev c 311 2059 [l0, l1, l2, l3, l4, l5, l6, l7] L2 [aI x] S = if x = 0 ∨ x = 1 then some (.inl (some (aI x)), S) else none := ev_rt i311_2059 rfl
theorem i311_2060 : insAt 311 2060 = some (.goto 739, 3, (0, 0, 0, 0), 0) := rfl
theorem s311_2060 {c : Nat → List AV → SS → Option Out} {l0 l1 l2 l3 l4 l5 l6 l7 : Option AV} {L2 : List (Nat × AV)} {St : List AV} {S : SS} : ev c 311 2060 [l0, l1, l2, l3, l4, l5, l6, l7] L2 St S = ev c 311 2799 [l0, l1, l2, l3, l4, l5, l6, l7] L2 St S := ev_go i311_2060 rfl
theorem i311_2063 : insAt 311 2063 = some (.aload_n 1, 1, (0, 0, 0, 0), 0) := rfl
theorem s311_2063 {c : Nat → List AV → SS → Option Out} {l0 l2 l3 l4 l5 l6 l7 : Option AV} {o : OId} {L2 : List (Nat × AV)} {St : List AV} {S : SS} : ev c 311 2063 [l0, some (aR o), l2, l3, l4, l5, l6, l7] L2 St S = ev c 311 2064 [l0, some (aR o), l2, l3, l4, l5, l6, l7] L2 (aR o :: St) S := ev_go i311_2063 rfl
theorem i311_2064 : insAt 311 2064 = some (.aload_n 0, 1, (0, 0, 0, 0), 0) := rfl
theorem s311_2064 {c : Nat → List AV → SS → Option Out} {l1 l2 l3 l4 l5 l6 l7 : Option AV} {o : OId} {L2 : List (Nat × AV)} {St : List AV} {S : SS} : ev c 311 2064 [some (aR o), l1, l2, l3, l4, l5, l6, l7] L2 St S = ev c 311 2065 [some (aR o), l1, l2, l3, l4, l5, l6, l7] L2 (aR o :: St) S := ev_go i311_2064 rfl
theorem i311_2065 : insAt 311 2065 = some (.iload 5, 2, (0, 0, 0, 0), 0) := rfl
theorem s311_2065 {c : Nat → List AV → SS → Option Out} {l0 l1 l2 l3 l4 l6 l7 : Option AV} {x : Int32} {L2 : List (Nat × AV)} {St : List AV} {S : SS} : ev c 311 2065 [l0, l1, l2, l3, l4, some (aI x), l6, l7] L2 St S = ev c 311 2067 [l0, l1, l2, l3, l4, some (aI x), l6, l7] L2 (aI x :: St) S := ev_go i311_2065 rfl
theorem i311_2067 : insAt 311 2067 = some (.iconst 1, 1, (0, 0, 0, 0), 0) := rfl
theorem s311_2067 {c : Nat → List AV → SS → Option Out} {l0 l1 l2 l3 l4 l5 l6 l7 : Option AV} {L2 : List (Nat × AV)} {St : List AV} {S : SS} : ev c 311 2067 [l0, l1, l2, l3, l4, l5, l6, l7] L2 St S = ev c 311 2068 [l0, l1, l2, l3, l4, l5, l6, l7] L2 (aI 1 :: St) S := ev_go i311_2067 rfl
theorem i311_2068 : insAt 311 2068 = some (.iadd, 1, (0, 0, 0, 0), 0) := rfl
theorem s311_2068 {c : Nat → List AV → SS → Option Out} {l0 l1 l2 l3 l4 l5 l6 l7 : Option AV} {x y : Int32} {L2 : List (Nat × AV)} {St : List AV} {S : SS} : ev c 311 2068 [l0, l1, l2, l3, l4, l5, l6, l7] L2 (aI y :: aI x :: St) S = ev c 311 2069 [l0, l1, l2, l3, l4, l5, l6, l7] L2 (aI (x + y) :: St) S := ev_go i311_2068 rfl
theorem i311_2069 : insAt 311 2069 = some (.iaload, 1, (0, 0, 0, 0), 0) := rfl
theorem s311_2069 {c : Nat → List AV → SS → Option Out} {l0 l1 l2 l3 l4 l5 l6 l7 : Option AV} {i : Int32} {o : OId} {L2 : List (Nat × AV)} {St : List AV} {S : SS} : ev c 311 2069 [l0, l1, l2, l3, l4, l5, l6, l7] L2 (aI i :: aR o :: St) S = kI o i (ev c 311 2070 [l0, l1, l2, l3, l4, l5, l6, l7] L2 (aI (agI S o i.toNatClampNeg) :: St) S) := ev_iaload i311_2069
theorem i311_2070 : insAt 311 2070 = some (.aload_n 0, 1, (0, 0, 0, 0), 0) := rfl
theorem s311_2070 {c : Nat → List AV → SS → Option Out} {l1 l2 l3 l4 l5 l6 l7 : Option AV} {o : OId} {L2 : List (Nat × AV)} {St : List AV} {S : SS} : ev c 311 2070 [some (aR o), l1, l2, l3, l4, l5, l6, l7] L2 St S = ev c 311 2071 [some (aR o), l1, l2, l3, l4, l5, l6, l7] L2 (aR o :: St) S := ev_go i311_2070 rfl
theorem i311_2071 : insAt 311 2071 = some (.iload 5, 2, (0, 0, 0, 0), 0) := rfl
theorem s311_2071 {c : Nat → List AV → SS → Option Out} {l0 l1 l2 l3 l4 l6 l7 : Option AV} {x : Int32} {L2 : List (Nat × AV)} {St : List AV} {S : SS} : ev c 311 2071 [l0, l1, l2, l3, l4, some (aI x), l6, l7] L2 St S = ev c 311 2073 [l0, l1, l2, l3, l4, some (aI x), l6, l7] L2 (aI x :: St) S := ev_go i311_2071 rfl
theorem i311_2073 : insAt 311 2073 = some (.iconst 2, 1, (0, 0, 0, 0), 0) := rfl
theorem s311_2073 {c : Nat → List AV → SS → Option Out} {l0 l1 l2 l3 l4 l5 l6 l7 : Option AV} {L2 : List (Nat × AV)} {St : List AV} {S : SS} : ev c 311 2073 [l0, l1, l2, l3, l4, l5, l6, l7] L2 St S = ev c 311 2074 [l0, l1, l2, l3, l4, l5, l6, l7] L2 (aI 2 :: St) S := ev_go i311_2073 rfl
theorem i311_2074 : insAt 311 2074 = some (.iadd, 1, (0, 0, 0, 0), 0) := rfl
theorem s311_2074 {c : Nat → List AV → SS → Option Out} {l0 l1 l2 l3 l4 l5 l6 l7 : Option AV} {x y : Int32} {L2 : List (Nat × AV)} {St : List AV} {S : SS} : ev c 311 2074 [l0, l1, l2, l3, l4, l5, l6, l7] L2 (aI y :: aI x :: St) S = ev c 311 2075 [l0, l1, l2, l3, l4, l5, l6, l7] L2 (aI (x + y) :: St) S := ev_go i311_2074 rfl
theorem i311_2075 : insAt 311 2075 = some (.iaload, 1, (0, 0, 0, 0), 0) := rfl
theorem s311_2075 {c : Nat → List AV → SS → Option Out} {l0 l1 l2 l3 l4 l5 l6 l7 : Option AV} {i : Int32} {o : OId} {L2 : List (Nat × AV)} {St : List AV} {S : SS} : ev c 311 2075 [l0, l1, l2, l3, l4, l5, l6, l7] L2 (aI i :: aR o :: St) S = kI o i (ev c 311 2076 [l0, l1, l2, l3, l4, l5, l6, l7] L2 (aI (agI S o i.toNatClampNeg) :: St) S) := ev_iaload i311_2075
theorem i311_2076 : insAt 311 2076 = some (.aload_n 3, 1, (0, 0, 0, 0), 0) := rfl
theorem s311_2076 {c : Nat → List AV → SS → Option Out} {l0 l1 l2 l4 l5 l6 l7 : Option AV} {o : OId} {L2 : List (Nat × AV)} {St : List AV} {S : SS} : ev c 311 2076 [l0, l1, l2, some (aR o), l4, l5, l6, l7] L2 St S = ev c 311 2077 [l0, l1, l2, some (aR o), l4, l5, l6, l7] L2 (aR o :: St) S := ev_go i311_2076 rfl
theorem i311_2077 : insAt 311 2077 = some (.invokestatic 268, 3, (147, 4, 0, 0), 510) := rfl
theorem s311_2077 {c : Nat → List AV → SS → Option Out} {l0 l1 l2 l3 l4 l5 l6 l7 : Option AV} {a0 : OId} {a1 : Int32} {a2 : Int32} {a3 : OId} {L2 : List (Nat × AV)} {S : SS} : ev c 311 2077 [l0, l1, l2, l3, l4, l5, l6, l7] L2 [aR a3, aI a2, aI a1, aR a0] S = ck (c 147 [aR a0, aI a1, aI a2, aR a3] S) (fun v S' => ev c 311 2080 [l0, l1, l2, l3, l4, l5, l6, l7] L2 (v.toList ++ []) S') := ev_call i311_2077 rfl
theorem i311_2080 : insAt 311 2080 = some (.istore 6, 2, (0, 0, 0, 0), 0) := rfl
theorem s311_2080 {c : Nat → List AV → SS → Option Out} {l0 l1 l2 l3 l4 l5 l6 l7 : Option AV} {x : Int32} {L2 : List (Nat × AV)} {St : List AV} {S : SS} : ev c 311 2080 [l0, l1, l2, l3, l4, l5, l6, l7] L2 (aI x :: St) S = ev c 311 2082 [l0, l1, l2, l3, l4, l5, some (aI x), l7] (kil L2 6) St S := ev_go i311_2080 rfl
theorem i311_2082 : insAt 311 2082 = some (.aload_n 2, 1, (0, 0, 0, 0), 0) := rfl
theorem s311_2082 {c : Nat → List AV → SS → Option Out} {l0 l1 l3 l4 l5 l6 l7 : Option AV} {o : OId} {L2 : List (Nat × AV)} {St : List AV} {S : SS} : ev c 311 2082 [l0, l1, some (aR o), l3, l4, l5, l6, l7] L2 St S = ev c 311 2083 [l0, l1, some (aR o), l3, l4, l5, l6, l7] L2 (aR o :: St) S := ev_go i311_2082 rfl
theorem i311_2083 : insAt 311 2083 = some (.aload_n 0, 1, (0, 0, 0, 0), 0) := rfl
theorem s311_2083 {c : Nat → List AV → SS → Option Out} {l1 l2 l3 l4 l5 l6 l7 : Option AV} {o : OId} {L2 : List (Nat × AV)} {St : List AV} {S : SS} : ev c 311 2083 [some (aR o), l1, l2, l3, l4, l5, l6, l7] L2 St S = ev c 311 2084 [some (aR o), l1, l2, l3, l4, l5, l6, l7] L2 (aR o :: St) S := ev_go i311_2083 rfl
theorem i311_2084 : insAt 311 2084 = some (.iload 5, 2, (0, 0, 0, 0), 0) := rfl
theorem s311_2084 {c : Nat → List AV → SS → Option Out} {l0 l1 l2 l3 l4 l6 l7 : Option AV} {x : Int32} {L2 : List (Nat × AV)} {St : List AV} {S : SS} : ev c 311 2084 [l0, l1, l2, l3, l4, some (aI x), l6, l7] L2 St S = ev c 311 2086 [l0, l1, l2, l3, l4, some (aI x), l6, l7] L2 (aI x :: St) S := ev_go i311_2084 rfl
theorem i311_2086 : insAt 311 2086 = some (.iconst 1, 1, (0, 0, 0, 0), 0) := rfl
theorem s311_2086 {c : Nat → List AV → SS → Option Out} {l0 l1 l2 l3 l4 l5 l6 l7 : Option AV} {L2 : List (Nat × AV)} {St : List AV} {S : SS} : ev c 311 2086 [l0, l1, l2, l3, l4, l5, l6, l7] L2 St S = ev c 311 2087 [l0, l1, l2, l3, l4, l5, l6, l7] L2 (aI 1 :: St) S := ev_go i311_2086 rfl
theorem i311_2087 : insAt 311 2087 = some (.iadd, 1, (0, 0, 0, 0), 0) := rfl
theorem s311_2087 {c : Nat → List AV → SS → Option Out} {l0 l1 l2 l3 l4 l5 l6 l7 : Option AV} {x y : Int32} {L2 : List (Nat × AV)} {St : List AV} {S : SS} : ev c 311 2087 [l0, l1, l2, l3, l4, l5, l6, l7] L2 (aI y :: aI x :: St) S = ev c 311 2088 [l0, l1, l2, l3, l4, l5, l6, l7] L2 (aI (x + y) :: St) S := ev_go i311_2087 rfl
theorem i311_2088 : insAt 311 2088 = some (.iaload, 1, (0, 0, 0, 0), 0) := rfl
theorem s311_2088 {c : Nat → List AV → SS → Option Out} {l0 l1 l2 l3 l4 l5 l6 l7 : Option AV} {i : Int32} {o : OId} {L2 : List (Nat × AV)} {St : List AV} {S : SS} : ev c 311 2088 [l0, l1, l2, l3, l4, l5, l6, l7] L2 (aI i :: aR o :: St) S = kI o i (ev c 311 2089 [l0, l1, l2, l3, l4, l5, l6, l7] L2 (aI (agI S o i.toNatClampNeg) :: St) S) := ev_iaload i311_2088
theorem i311_2089 : insAt 311 2089 = some (.aload_n 0, 1, (0, 0, 0, 0), 0) := rfl
theorem s311_2089 {c : Nat → List AV → SS → Option Out} {l1 l2 l3 l4 l5 l6 l7 : Option AV} {o : OId} {L2 : List (Nat × AV)} {St : List AV} {S : SS} : ev c 311 2089 [some (aR o), l1, l2, l3, l4, l5, l6, l7] L2 St S = ev c 311 2090 [some (aR o), l1, l2, l3, l4, l5, l6, l7] L2 (aR o :: St) S := ev_go i311_2089 rfl
theorem i311_2090 : insAt 311 2090 = some (.iload 5, 2, (0, 0, 0, 0), 0) := rfl
theorem s311_2090 {c : Nat → List AV → SS → Option Out} {l0 l1 l2 l3 l4 l6 l7 : Option AV} {x : Int32} {L2 : List (Nat × AV)} {St : List AV} {S : SS} : ev c 311 2090 [l0, l1, l2, l3, l4, some (aI x), l6, l7] L2 St S = ev c 311 2092 [l0, l1, l2, l3, l4, some (aI x), l6, l7] L2 (aI x :: St) S := ev_go i311_2090 rfl
theorem i311_2092 : insAt 311 2092 = some (.iconst 2, 1, (0, 0, 0, 0), 0) := rfl
theorem s311_2092 {c : Nat → List AV → SS → Option Out} {l0 l1 l2 l3 l4 l5 l6 l7 : Option AV} {L2 : List (Nat × AV)} {St : List AV} {S : SS} : ev c 311 2092 [l0, l1, l2, l3, l4, l5, l6, l7] L2 St S = ev c 311 2093 [l0, l1, l2, l3, l4, l5, l6, l7] L2 (aI 2 :: St) S := ev_go i311_2092 rfl
theorem i311_2093 : insAt 311 2093 = some (.iadd, 1, (0, 0, 0, 0), 0) := rfl
theorem s311_2093 {c : Nat → List AV → SS → Option Out} {l0 l1 l2 l3 l4 l5 l6 l7 : Option AV} {x y : Int32} {L2 : List (Nat × AV)} {St : List AV} {S : SS} : ev c 311 2093 [l0, l1, l2, l3, l4, l5, l6, l7] L2 (aI y :: aI x :: St) S = ev c 311 2094 [l0, l1, l2, l3, l4, l5, l6, l7] L2 (aI (x + y) :: St) S := ev_go i311_2093 rfl
theorem i311_2094 : insAt 311 2094 = some (.iaload, 1, (0, 0, 0, 0), 0) := rfl
theorem s311_2094 {c : Nat → List AV → SS → Option Out} {l0 l1 l2 l3 l4 l5 l6 l7 : Option AV} {i : Int32} {o : OId} {L2 : List (Nat × AV)} {St : List AV} {S : SS} : ev c 311 2094 [l0, l1, l2, l3, l4, l5, l6, l7] L2 (aI i :: aR o :: St) S = kI o i (ev c 311 2095 [l0, l1, l2, l3, l4, l5, l6, l7] L2 (aI (agI S o i.toNatClampNeg) :: St) S) := ev_iaload i311_2094
theorem i311_2095 : insAt 311 2095 = some (.invokevirtual 270, 3, (287, 2, 2, 12), 511) := rfl
theorem s311_2095 {c : Nat → List AV → SS → Option Out} {l0 l1 l2 l3 l4 l5 l6 l7 : Option AV} {a0 : Int32} {a1 : Int32} {j t : Nat} {L2 : List (Nat × AV)} {S : SS} : ev c 311 2095 [l0, l1, l2, l3, l4, l5, l6, l7] L2 [aI a1, aI a0, aR (12, j, t)] S = ck (c 287 [aR (12, j, t), aI a0, aI a1] S) (fun v S' => ev c 311 2098 [l0, l1, l2, l3, l4, l5, l6, l7] L2 (v.toList ++ []) S') := ev_call i311_2095 rfl
theorem i311_2098 : insAt 311 2098 = some (.istore 7, 2, (0, 0, 0, 0), 0) := rfl
theorem s311_2098 {c : Nat → List AV → SS → Option Out} {l0 l1 l2 l3 l4 l5 l6 l7 : Option AV} {x : Int32} {L2 : List (Nat × AV)} {St : List AV} {S : SS} : ev c 311 2098 [l0, l1, l2, l3, l4, l5, l6, l7] L2 (aI x :: St) S = ev c 311 2100 [l0, l1, l2, l3, l4, l5, l6, some (aI x)] (kil L2 7) St S := ev_go i311_2098 rfl
theorem i311_2100 : insAt 311 2100 = some (.aload_n 2, 1, (0, 0, 0, 0), 0) := rfl
theorem s311_2100 {c : Nat → List AV → SS → Option Out} {l0 l1 l3 l4 l5 l6 l7 : Option AV} {o : OId} {L2 : List (Nat × AV)} {St : List AV} {S : SS} : ev c 311 2100 [l0, l1, some (aR o), l3, l4, l5, l6, l7] L2 St S = ev c 311 2101 [l0, l1, some (aR o), l3, l4, l5, l6, l7] L2 (aR o :: St) S := ev_go i311_2100 rfl
theorem i311_2101 : insAt 311 2101 = some (.invokevirtual 149, 3, (215, 0, 2, 12), 441) := rfl
theorem s311_2101 {c : Nat → List AV → SS → Option Out} {l0 l1 l2 l3 l4 l5 l6 l7 : Option AV} {j t : Nat} {L2 : List (Nat × AV)} {S : SS} : ev c 311 2101 [l0, l1, l2, l3, l4, l5, l6, l7] L2 [aR (12, j, t)] S = ck (c 215 [aR (12, j, t)] S) (fun v S' => ev c 311 2104 [l0, l1, l2, l3, l4, l5, l6, l7] L2 (v.toList ++ []) S') := ev_call i311_2101 rfl
theorem i311_2104 : insAt 311 2104 = some (.iload 6, 2, (0, 0, 0, 0), 0) := rfl
theorem s311_2104 {c : Nat → List AV → SS → Option Out} {l0 l1 l2 l3 l4 l5 l7 : Option AV} {x : Int32} {L2 : List (Nat × AV)} {St : List AV} {S : SS} : ev c 311 2104 [l0, l1, l2, l3, l4, l5, some (aI x), l7] L2 St S = ev c 311 2106 [l0, l1, l2, l3, l4, l5, some (aI x), l7] L2 (aI x :: St) S := ev_go i311_2104 rfl
theorem i311_2106 : insAt 311 2106 = some (.if_icmp .eq 5, 3, (0, 0, 0, 0), 0) := rfl
theorem s311_2106 {c : Nat → List AV → SS → Option Out} {l0 l1 l2 l3 l4 l5 l6 l7 : Option AV} {x y : Int32} {L2 : List (Nat × AV)} {St : List AV} {S : SS} : ev c 311 2106 [l0, l1, l2, l3, l4, l5, l6, l7] L2 (aI y :: aI x :: St) S = if x = y then ev c 311 2111 [l0, l1, l2, l3, l4, l5, l6, l7] L2 St S else ev c 311 2109 [l0, l1, l2, l3, l4, l5, l6, l7] L2 St S := ev_br i311_2106 rfl
theorem i311_2109 : insAt 311 2109 = some (.iconst 0, 1, (0, 0, 0, 0), 0) := rfl
theorem s311_2109 {c : Nat → List AV → SS → Option Out} {l0 l1 l2 l3 l4 l5 l6 l7 : Option AV} {L2 : List (Nat × AV)} {St : List AV} {S : SS} : ev c 311 2109 [l0, l1, l2, l3, l4, l5, l6, l7] L2 St S = ev c 311 2110 [l0, l1, l2, l3, l4, l5, l6, l7] L2 (aI 0 :: St) S := ev_go i311_2109 rfl
theorem i311_2110 : insAt 311 2110 = some (.ireturn, 1, (0, 0, 0, 0), 0) := rfl
theorem s311_2110 {c : Nat → List AV → SS → Option Out} {l0 l1 l2 l3 l4 l5 l6 l7 : Option AV} {x : Int32} {L2 : List (Nat × AV)} {S : SS} : ev c 311 2110 [l0, l1, l2, l3, l4, l5, l6, l7] L2 [aI x] S = if x = 0 ∨ x = 1 then some (.inl (some (aI x)), S) else none := ev_rt i311_2110 rfl
theorem i311_2111 : insAt 311 2111 = some (.iload 6, 2, (0, 0, 0, 0), 0) := rfl
theorem s311_2111 {c : Nat → List AV → SS → Option Out} {l0 l1 l2 l3 l4 l5 l7 : Option AV} {x : Int32} {L2 : List (Nat × AV)} {St : List AV} {S : SS} : ev c 311 2111 [l0, l1, l2, l3, l4, l5, some (aI x), l7] L2 St S = ev c 311 2113 [l0, l1, l2, l3, l4, l5, some (aI x), l7] L2 (aI x :: St) S := ev_go i311_2111 rfl
theorem i311_2113 : insAt 311 2113 = some (.ifCond .ne 15, 3, (0, 0, 0, 0), 0) := rfl
theorem s311_2113 {c : Nat → List AV → SS → Option Out} {l0 l1 l2 l3 l4 l5 l6 l7 : Option AV} {x : Int32} {L2 : List (Nat × AV)} {St : List AV} {S : SS} : ev c 311 2113 [l0, l1, l2, l3, l4, l5, l6, l7] L2 (aI x :: St) S = if x = 0 then ev c 311 2116 [l0, l1, l2, l3, l4, l5, l6, l7] L2 St S else ev c 311 2128 [l0, l1, l2, l3, l4, l5, l6, l7] L2 St S := (ev_br i311_2113 rfl).trans (ite_not _ _ _)
theorem i311_2116 : insAt 311 2116 = some (.aload_n 3, 1, (0, 0, 0, 0), 0) := rfl
theorem s311_2116 {c : Nat → List AV → SS → Option Out} {l0 l1 l2 l4 l5 l6 l7 : Option AV} {o : OId} {L2 : List (Nat × AV)} {St : List AV} {S : SS} : ev c 311 2116 [l0, l1, l2, some (aR o), l4, l5, l6, l7] L2 St S = ev c 311 2117 [l0, l1, l2, some (aR o), l4, l5, l6, l7] L2 (aR o :: St) S := ev_go i311_2116 rfl
theorem i311_2117 : insAt 311 2117 = some (.iconst 0, 1, (0, 0, 0, 0), 0) := rfl
theorem s311_2117 {c : Nat → List AV → SS → Option Out} {l0 l1 l2 l3 l4 l5 l6 l7 : Option AV} {L2 : List (Nat × AV)} {St : List AV} {S : SS} : ev c 311 2117 [l0, l1, l2, l3, l4, l5, l6, l7] L2 St S = ev c 311 2118 [l0, l1, l2, l3, l4, l5, l6, l7] L2 (aI 0 :: St) S := ev_go i311_2117 rfl
theorem i311_2118 : insAt 311 2118 = some (.laload, 1, (0, 0, 0, 0), 0) := rfl
theorem s311_2118 {c : Nat → List AV → SS → Option Out} {l0 l1 l2 l3 l4 l5 l6 l7 : Option AV} {i : Int32} {o : OId} {L2 : List (Nat × AV)} {St : List AV} {S : SS} : ev c 311 2118 [l0, l1, l2, l3, l4, l5, l6, l7] L2 (aI i :: aR o :: St) S = kJ o i (ev c 311 2119 [l0, l1, l2, l3, l4, l5, l6, l7] L2 (aL (toL (S.2.1 o i.toNatClampNeg)) :: St) S) := ev_laload i311_2118
theorem i311_2119 : insAt 311 2119 = some (.iload 7, 2, (0, 0, 0, 0), 0) := rfl
theorem s311_2119 {c : Nat → List AV → SS → Option Out} {l0 l1 l2 l3 l4 l5 l6 : Option AV} {x : Int32} {L2 : List (Nat × AV)} {St : List AV} {S : SS} : ev c 311 2119 [l0, l1, l2, l3, l4, l5, l6, some (aI x)] L2 St S = ev c 311 2121 [l0, l1, l2, l3, l4, l5, l6, some (aI x)] L2 (aI x :: St) S := ev_go i311_2119 rfl
theorem i311_2121 : insAt 311 2121 = some (.i2l, 1, (0, 0, 0, 0), 0) := rfl
theorem s311_2121 {c : Nat → List AV → SS → Option Out} {l0 l1 l2 l3 l4 l5 l6 l7 : Option AV} {x : Int32} {L2 : List (Nat × AV)} {St : List AV} {S : SS} : ev c 311 2121 [l0, l1, l2, l3, l4, l5, l6, l7] L2 (aI x :: St) S = ev c 311 2122 [l0, l1, l2, l3, l4, l5, l6, l7] L2 (aL x.toInt64 :: St) S := ev_go i311_2121 rfl
theorem i311_2122 : insAt 311 2122 = some (.lcmp, 1, (0, 0, 0, 0), 0) := rfl
theorem s311_2122 {c : Nat → List AV → SS → Option Out} {l0 l1 l2 l3 l4 l5 l6 l7 : Option AV} {x y : Int64} {L2 : List (Nat × AV)} {St : List AV} {S : SS} : ev c 311 2122 [l0, l1, l2, l3, l4, l5, l6, l7] L2 (aL y :: aL x :: St) S = ev c 311 2123 [l0, l1, l2, l3, l4, l5, l6, l7] L2 (aI (if x < y then -1 else if x = y then 0 else 1) :: St) S := ev_go i311_2122 rfl
theorem i311_2123 : insAt 311 2123 = some (.ifCond .eq 5, 3, (0, 0, 0, 0), 0) := rfl
theorem s311_2123 {c : Nat → List AV → SS → Option Out} {l0 l1 l2 l3 l4 l5 l6 l7 : Option AV} {x : Int32} {L2 : List (Nat × AV)} {St : List AV} {S : SS} : ev c 311 2123 [l0, l1, l2, l3, l4, l5, l6, l7] L2 (aI x :: St) S = if x = 0 then ev c 311 2128 [l0, l1, l2, l3, l4, l5, l6, l7] L2 St S else ev c 311 2126 [l0, l1, l2, l3, l4, l5, l6, l7] L2 St S := ev_br i311_2123 rfl
theorem i311_2126 : insAt 311 2126 = some (.iconst 0, 1, (0, 0, 0, 0), 0) := rfl
theorem s311_2126 {c : Nat → List AV → SS → Option Out} {l0 l1 l2 l3 l4 l5 l6 l7 : Option AV} {L2 : List (Nat × AV)} {St : List AV} {S : SS} : ev c 311 2126 [l0, l1, l2, l3, l4, l5, l6, l7] L2 St S = ev c 311 2127 [l0, l1, l2, l3, l4, l5, l6, l7] L2 (aI 0 :: St) S := ev_go i311_2126 rfl
theorem i311_2127 : insAt 311 2127 = some (.ireturn, 1, (0, 0, 0, 0), 0) := rfl
theorem s311_2127 {c : Nat → List AV → SS → Option Out} {l0 l1 l2 l3 l4 l5 l6 l7 : Option AV} {x : Int32} {L2 : List (Nat × AV)} {S : SS} : ev c 311 2127 [l0, l1, l2, l3, l4, l5, l6, l7] L2 [aI x] S = if x = 0 ∨ x = 1 then some (.inl (some (aI x)), S) else none := ev_rt i311_2127 rfl
theorem i311_2128 : insAt 311 2128 = some (.goto 671, 3, (0, 0, 0, 0), 0) := rfl
theorem s311_2128 {c : Nat → List AV → SS → Option Out} {l0 l1 l2 l3 l4 l5 l6 l7 : Option AV} {L2 : List (Nat × AV)} {St : List AV} {S : SS} : ev c 311 2128 [l0, l1, l2, l3, l4, l5, l6, l7] L2 St S = ev c 311 2799 [l0, l1, l2, l3, l4, l5, l6, l7] L2 St S := ev_go i311_2128 rfl
theorem i311_2131 : insAt 311 2131 = some (.aload_n 1, 1, (0, 0, 0, 0), 0) := rfl
theorem s311_2131 {c : Nat → List AV → SS → Option Out} {l0 l2 l3 l4 l5 l6 l7 : Option AV} {o : OId} {L2 : List (Nat × AV)} {St : List AV} {S : SS} : ev c 311 2131 [l0, some (aR o), l2, l3, l4, l5, l6, l7] L2 St S = ev c 311 2132 [l0, some (aR o), l2, l3, l4, l5, l6, l7] L2 (aR o :: St) S := ev_go i311_2131 rfl
theorem i311_2132 : insAt 311 2132 = some (.aload_n 0, 1, (0, 0, 0, 0), 0) := rfl
theorem s311_2132 {c : Nat → List AV → SS → Option Out} {l1 l2 l3 l4 l5 l6 l7 : Option AV} {o : OId} {L2 : List (Nat × AV)} {St : List AV} {S : SS} : ev c 311 2132 [some (aR o), l1, l2, l3, l4, l5, l6, l7] L2 St S = ev c 311 2133 [some (aR o), l1, l2, l3, l4, l5, l6, l7] L2 (aR o :: St) S := ev_go i311_2132 rfl
theorem i311_2133 : insAt 311 2133 = some (.iload 5, 2, (0, 0, 0, 0), 0) := rfl
theorem s311_2133 {c : Nat → List AV → SS → Option Out} {l0 l1 l2 l3 l4 l6 l7 : Option AV} {x : Int32} {L2 : List (Nat × AV)} {St : List AV} {S : SS} : ev c 311 2133 [l0, l1, l2, l3, l4, some (aI x), l6, l7] L2 St S = ev c 311 2135 [l0, l1, l2, l3, l4, some (aI x), l6, l7] L2 (aI x :: St) S := ev_go i311_2133 rfl
theorem i311_2135 : insAt 311 2135 = some (.iconst 1, 1, (0, 0, 0, 0), 0) := rfl
theorem s311_2135 {c : Nat → List AV → SS → Option Out} {l0 l1 l2 l3 l4 l5 l6 l7 : Option AV} {L2 : List (Nat × AV)} {St : List AV} {S : SS} : ev c 311 2135 [l0, l1, l2, l3, l4, l5, l6, l7] L2 St S = ev c 311 2136 [l0, l1, l2, l3, l4, l5, l6, l7] L2 (aI 1 :: St) S := ev_go i311_2135 rfl
theorem i311_2136 : insAt 311 2136 = some (.iadd, 1, (0, 0, 0, 0), 0) := rfl
theorem s311_2136 {c : Nat → List AV → SS → Option Out} {l0 l1 l2 l3 l4 l5 l6 l7 : Option AV} {x y : Int32} {L2 : List (Nat × AV)} {St : List AV} {S : SS} : ev c 311 2136 [l0, l1, l2, l3, l4, l5, l6, l7] L2 (aI y :: aI x :: St) S = ev c 311 2137 [l0, l1, l2, l3, l4, l5, l6, l7] L2 (aI (x + y) :: St) S := ev_go i311_2136 rfl
theorem i311_2137 : insAt 311 2137 = some (.iaload, 1, (0, 0, 0, 0), 0) := rfl
theorem s311_2137 {c : Nat → List AV → SS → Option Out} {l0 l1 l2 l3 l4 l5 l6 l7 : Option AV} {i : Int32} {o : OId} {L2 : List (Nat × AV)} {St : List AV} {S : SS} : ev c 311 2137 [l0, l1, l2, l3, l4, l5, l6, l7] L2 (aI i :: aR o :: St) S = kI o i (ev c 311 2138 [l0, l1, l2, l3, l4, l5, l6, l7] L2 (aI (agI S o i.toNatClampNeg) :: St) S) := ev_iaload i311_2137
theorem i311_2138 : insAt 311 2138 = some (.aload_n 0, 1, (0, 0, 0, 0), 0) := rfl
theorem s311_2138 {c : Nat → List AV → SS → Option Out} {l1 l2 l3 l4 l5 l6 l7 : Option AV} {o : OId} {L2 : List (Nat × AV)} {St : List AV} {S : SS} : ev c 311 2138 [some (aR o), l1, l2, l3, l4, l5, l6, l7] L2 St S = ev c 311 2139 [some (aR o), l1, l2, l3, l4, l5, l6, l7] L2 (aR o :: St) S := ev_go i311_2138 rfl
theorem i311_2139 : insAt 311 2139 = some (.iload 5, 2, (0, 0, 0, 0), 0) := rfl
theorem s311_2139 {c : Nat → List AV → SS → Option Out} {l0 l1 l2 l3 l4 l6 l7 : Option AV} {x : Int32} {L2 : List (Nat × AV)} {St : List AV} {S : SS} : ev c 311 2139 [l0, l1, l2, l3, l4, some (aI x), l6, l7] L2 St S = ev c 311 2141 [l0, l1, l2, l3, l4, some (aI x), l6, l7] L2 (aI x :: St) S := ev_go i311_2139 rfl
theorem i311_2141 : insAt 311 2141 = some (.iconst 2, 1, (0, 0, 0, 0), 0) := rfl
theorem s311_2141 {c : Nat → List AV → SS → Option Out} {l0 l1 l2 l3 l4 l5 l6 l7 : Option AV} {L2 : List (Nat × AV)} {St : List AV} {S : SS} : ev c 311 2141 [l0, l1, l2, l3, l4, l5, l6, l7] L2 St S = ev c 311 2142 [l0, l1, l2, l3, l4, l5, l6, l7] L2 (aI 2 :: St) S := ev_go i311_2141 rfl
theorem i311_2142 : insAt 311 2142 = some (.iadd, 1, (0, 0, 0, 0), 0) := rfl
theorem s311_2142 {c : Nat → List AV → SS → Option Out} {l0 l1 l2 l3 l4 l5 l6 l7 : Option AV} {x y : Int32} {L2 : List (Nat × AV)} {St : List AV} {S : SS} : ev c 311 2142 [l0, l1, l2, l3, l4, l5, l6, l7] L2 (aI y :: aI x :: St) S = ev c 311 2143 [l0, l1, l2, l3, l4, l5, l6, l7] L2 (aI (x + y) :: St) S := ev_go i311_2142 rfl
theorem i311_2143 : insAt 311 2143 = some (.iaload, 1, (0, 0, 0, 0), 0) := rfl
theorem s311_2143 {c : Nat → List AV → SS → Option Out} {l0 l1 l2 l3 l4 l5 l6 l7 : Option AV} {i : Int32} {o : OId} {L2 : List (Nat × AV)} {St : List AV} {S : SS} : ev c 311 2143 [l0, l1, l2, l3, l4, l5, l6, l7] L2 (aI i :: aR o :: St) S = kI o i (ev c 311 2144 [l0, l1, l2, l3, l4, l5, l6, l7] L2 (aI (agI S o i.toNatClampNeg) :: St) S) := ev_iaload i311_2143
theorem i311_2144 : insAt 311 2144 = some (.aload_n 3, 1, (0, 0, 0, 0), 0) := rfl
theorem s311_2144 {c : Nat → List AV → SS → Option Out} {l0 l1 l2 l4 l5 l6 l7 : Option AV} {o : OId} {L2 : List (Nat × AV)} {St : List AV} {S : SS} : ev c 311 2144 [l0, l1, l2, some (aR o), l4, l5, l6, l7] L2 St S = ev c 311 2145 [l0, l1, l2, some (aR o), l4, l5, l6, l7] L2 (aR o :: St) S := ev_go i311_2144 rfl
theorem i311_2145 : insAt 311 2145 = some (.invokestatic 271, 3, (152, 4, 0, 0), 512) := rfl
theorem s311_2145 {c : Nat → List AV → SS → Option Out} {l0 l1 l2 l3 l4 l5 l6 l7 : Option AV} {a0 : OId} {a1 : Int32} {a2 : Int32} {a3 : OId} {L2 : List (Nat × AV)} {S : SS} : ev c 311 2145 [l0, l1, l2, l3, l4, l5, l6, l7] L2 [aR a3, aI a2, aI a1, aR a0] S = ck (c 152 [aR a0, aI a1, aI a2, aR a3] S) (fun v S' => ev c 311 2148 [l0, l1, l2, l3, l4, l5, l6, l7] L2 (v.toList ++ []) S') := ev_call i311_2145 rfl
theorem i311_2148 : insAt 311 2148 = some (.istore 6, 2, (0, 0, 0, 0), 0) := rfl
theorem s311_2148 {c : Nat → List AV → SS → Option Out} {l0 l1 l2 l3 l4 l5 l6 l7 : Option AV} {x : Int32} {L2 : List (Nat × AV)} {St : List AV} {S : SS} : ev c 311 2148 [l0, l1, l2, l3, l4, l5, l6, l7] L2 (aI x :: St) S = ev c 311 2150 [l0, l1, l2, l3, l4, l5, some (aI x), l7] (kil L2 6) St S := ev_go i311_2148 rfl
theorem i311_2150 : insAt 311 2150 = some (.aload_n 2, 1, (0, 0, 0, 0), 0) := rfl
theorem s311_2150 {c : Nat → List AV → SS → Option Out} {l0 l1 l3 l4 l5 l6 l7 : Option AV} {o : OId} {L2 : List (Nat × AV)} {St : List AV} {S : SS} : ev c 311 2150 [l0, l1, some (aR o), l3, l4, l5, l6, l7] L2 St S = ev c 311 2151 [l0, l1, some (aR o), l3, l4, l5, l6, l7] L2 (aR o :: St) S := ev_go i311_2150 rfl
theorem i311_2151 : insAt 311 2151 = some (.aload_n 0, 1, (0, 0, 0, 0), 0) := rfl
theorem s311_2151 {c : Nat → List AV → SS → Option Out} {l1 l2 l3 l4 l5 l6 l7 : Option AV} {o : OId} {L2 : List (Nat × AV)} {St : List AV} {S : SS} : ev c 311 2151 [some (aR o), l1, l2, l3, l4, l5, l6, l7] L2 St S = ev c 311 2152 [some (aR o), l1, l2, l3, l4, l5, l6, l7] L2 (aR o :: St) S := ev_go i311_2151 rfl
theorem i311_2152 : insAt 311 2152 = some (.iload 5, 2, (0, 0, 0, 0), 0) := rfl
theorem s311_2152 {c : Nat → List AV → SS → Option Out} {l0 l1 l2 l3 l4 l6 l7 : Option AV} {x : Int32} {L2 : List (Nat × AV)} {St : List AV} {S : SS} : ev c 311 2152 [l0, l1, l2, l3, l4, some (aI x), l6, l7] L2 St S = ev c 311 2154 [l0, l1, l2, l3, l4, some (aI x), l6, l7] L2 (aI x :: St) S := ev_go i311_2152 rfl
theorem i311_2154 : insAt 311 2154 = some (.iconst 1, 1, (0, 0, 0, 0), 0) := rfl
theorem s311_2154 {c : Nat → List AV → SS → Option Out} {l0 l1 l2 l3 l4 l5 l6 l7 : Option AV} {L2 : List (Nat × AV)} {St : List AV} {S : SS} : ev c 311 2154 [l0, l1, l2, l3, l4, l5, l6, l7] L2 St S = ev c 311 2155 [l0, l1, l2, l3, l4, l5, l6, l7] L2 (aI 1 :: St) S := ev_go i311_2154 rfl
theorem i311_2155 : insAt 311 2155 = some (.iadd, 1, (0, 0, 0, 0), 0) := rfl
theorem s311_2155 {c : Nat → List AV → SS → Option Out} {l0 l1 l2 l3 l4 l5 l6 l7 : Option AV} {x y : Int32} {L2 : List (Nat × AV)} {St : List AV} {S : SS} : ev c 311 2155 [l0, l1, l2, l3, l4, l5, l6, l7] L2 (aI y :: aI x :: St) S = ev c 311 2156 [l0, l1, l2, l3, l4, l5, l6, l7] L2 (aI (x + y) :: St) S := ev_go i311_2155 rfl
theorem i311_2156 : insAt 311 2156 = some (.iaload, 1, (0, 0, 0, 0), 0) := rfl
theorem s311_2156 {c : Nat → List AV → SS → Option Out} {l0 l1 l2 l3 l4 l5 l6 l7 : Option AV} {i : Int32} {o : OId} {L2 : List (Nat × AV)} {St : List AV} {S : SS} : ev c 311 2156 [l0, l1, l2, l3, l4, l5, l6, l7] L2 (aI i :: aR o :: St) S = kI o i (ev c 311 2157 [l0, l1, l2, l3, l4, l5, l6, l7] L2 (aI (agI S o i.toNatClampNeg) :: St) S) := ev_iaload i311_2156
theorem i311_2157 : insAt 311 2157 = some (.aload_n 0, 1, (0, 0, 0, 0), 0) := rfl
theorem s311_2157 {c : Nat → List AV → SS → Option Out} {l1 l2 l3 l4 l5 l6 l7 : Option AV} {o : OId} {L2 : List (Nat × AV)} {St : List AV} {S : SS} : ev c 311 2157 [some (aR o), l1, l2, l3, l4, l5, l6, l7] L2 St S = ev c 311 2158 [some (aR o), l1, l2, l3, l4, l5, l6, l7] L2 (aR o :: St) S := ev_go i311_2157 rfl
theorem i311_2158 : insAt 311 2158 = some (.iload 5, 2, (0, 0, 0, 0), 0) := rfl
theorem s311_2158 {c : Nat → List AV → SS → Option Out} {l0 l1 l2 l3 l4 l6 l7 : Option AV} {x : Int32} {L2 : List (Nat × AV)} {St : List AV} {S : SS} : ev c 311 2158 [l0, l1, l2, l3, l4, some (aI x), l6, l7] L2 St S = ev c 311 2160 [l0, l1, l2, l3, l4, some (aI x), l6, l7] L2 (aI x :: St) S := ev_go i311_2158 rfl
theorem i311_2160 : insAt 311 2160 = some (.iconst 2, 1, (0, 0, 0, 0), 0) := rfl
theorem s311_2160 {c : Nat → List AV → SS → Option Out} {l0 l1 l2 l3 l4 l5 l6 l7 : Option AV} {L2 : List (Nat × AV)} {St : List AV} {S : SS} : ev c 311 2160 [l0, l1, l2, l3, l4, l5, l6, l7] L2 St S = ev c 311 2161 [l0, l1, l2, l3, l4, l5, l6, l7] L2 (aI 2 :: St) S := ev_go i311_2160 rfl
theorem i311_2161 : insAt 311 2161 = some (.iadd, 1, (0, 0, 0, 0), 0) := rfl
theorem s311_2161 {c : Nat → List AV → SS → Option Out} {l0 l1 l2 l3 l4 l5 l6 l7 : Option AV} {x y : Int32} {L2 : List (Nat × AV)} {St : List AV} {S : SS} : ev c 311 2161 [l0, l1, l2, l3, l4, l5, l6, l7] L2 (aI y :: aI x :: St) S = ev c 311 2162 [l0, l1, l2, l3, l4, l5, l6, l7] L2 (aI (x + y) :: St) S := ev_go i311_2161 rfl
theorem i311_2162 : insAt 311 2162 = some (.iaload, 1, (0, 0, 0, 0), 0) := rfl
theorem s311_2162 {c : Nat → List AV → SS → Option Out} {l0 l1 l2 l3 l4 l5 l6 l7 : Option AV} {i : Int32} {o : OId} {L2 : List (Nat × AV)} {St : List AV} {S : SS} : ev c 311 2162 [l0, l1, l2, l3, l4, l5, l6, l7] L2 (aI i :: aR o :: St) S = kI o i (ev c 311 2163 [l0, l1, l2, l3, l4, l5, l6, l7] L2 (aI (agI S o i.toNatClampNeg) :: St) S) := ev_iaload i311_2162
theorem i311_2163 : insAt 311 2163 = some (.invokevirtual 273, 3, (290, 2, 2, 12), 513) := rfl
theorem s311_2163 {c : Nat → List AV → SS → Option Out} {l0 l1 l2 l3 l4 l5 l6 l7 : Option AV} {a0 : Int32} {a1 : Int32} {j t : Nat} {L2 : List (Nat × AV)} {S : SS} : ev c 311 2163 [l0, l1, l2, l3, l4, l5, l6, l7] L2 [aI a1, aI a0, aR (12, j, t)] S = ck (c 290 [aR (12, j, t), aI a0, aI a1] S) (fun v S' => ev c 311 2166 [l0, l1, l2, l3, l4, l5, l6, l7] L2 (v.toList ++ []) S') := ev_call i311_2163 rfl
theorem i311_2166 : insAt 311 2166 = some (.istore 7, 2, (0, 0, 0, 0), 0) := rfl
theorem s311_2166 {c : Nat → List AV → SS → Option Out} {l0 l1 l2 l3 l4 l5 l6 l7 : Option AV} {x : Int32} {L2 : List (Nat × AV)} {St : List AV} {S : SS} : ev c 311 2166 [l0, l1, l2, l3, l4, l5, l6, l7] L2 (aI x :: St) S = ev c 311 2168 [l0, l1, l2, l3, l4, l5, l6, some (aI x)] (kil L2 7) St S := ev_go i311_2166 rfl
theorem i311_2168 : insAt 311 2168 = some (.aload_n 2, 1, (0, 0, 0, 0), 0) := rfl
theorem s311_2168 {c : Nat → List AV → SS → Option Out} {l0 l1 l3 l4 l5 l6 l7 : Option AV} {o : OId} {L2 : List (Nat × AV)} {St : List AV} {S : SS} : ev c 311 2168 [l0, l1, some (aR o), l3, l4, l5, l6, l7] L2 St S = ev c 311 2169 [l0, l1, some (aR o), l3, l4, l5, l6, l7] L2 (aR o :: St) S := ev_go i311_2168 rfl
theorem i311_2169 : insAt 311 2169 = some (.invokevirtual 149, 3, (215, 0, 2, 12), 441) := rfl
theorem s311_2169 {c : Nat → List AV → SS → Option Out} {l0 l1 l2 l3 l4 l5 l6 l7 : Option AV} {j t : Nat} {L2 : List (Nat × AV)} {S : SS} : ev c 311 2169 [l0, l1, l2, l3, l4, l5, l6, l7] L2 [aR (12, j, t)] S = ck (c 215 [aR (12, j, t)] S) (fun v S' => ev c 311 2172 [l0, l1, l2, l3, l4, l5, l6, l7] L2 (v.toList ++ []) S') := ev_call i311_2169 rfl
theorem i311_2172 : insAt 311 2172 = some (.iload 6, 2, (0, 0, 0, 0), 0) := rfl
theorem s311_2172 {c : Nat → List AV → SS → Option Out} {l0 l1 l2 l3 l4 l5 l7 : Option AV} {x : Int32} {L2 : List (Nat × AV)} {St : List AV} {S : SS} : ev c 311 2172 [l0, l1, l2, l3, l4, l5, some (aI x), l7] L2 St S = ev c 311 2174 [l0, l1, l2, l3, l4, l5, some (aI x), l7] L2 (aI x :: St) S := ev_go i311_2172 rfl
theorem i311_2174 : insAt 311 2174 = some (.if_icmp .eq 5, 3, (0, 0, 0, 0), 0) := rfl
theorem s311_2174 {c : Nat → List AV → SS → Option Out} {l0 l1 l2 l3 l4 l5 l6 l7 : Option AV} {x y : Int32} {L2 : List (Nat × AV)} {St : List AV} {S : SS} : ev c 311 2174 [l0, l1, l2, l3, l4, l5, l6, l7] L2 (aI y :: aI x :: St) S = if x = y then ev c 311 2179 [l0, l1, l2, l3, l4, l5, l6, l7] L2 St S else ev c 311 2177 [l0, l1, l2, l3, l4, l5, l6, l7] L2 St S := ev_br i311_2174 rfl
theorem i311_2177 : insAt 311 2177 = some (.iconst 0, 1, (0, 0, 0, 0), 0) := rfl
theorem s311_2177 {c : Nat → List AV → SS → Option Out} {l0 l1 l2 l3 l4 l5 l6 l7 : Option AV} {L2 : List (Nat × AV)} {St : List AV} {S : SS} : ev c 311 2177 [l0, l1, l2, l3, l4, l5, l6, l7] L2 St S = ev c 311 2178 [l0, l1, l2, l3, l4, l5, l6, l7] L2 (aI 0 :: St) S := ev_go i311_2177 rfl
theorem i311_2178 : insAt 311 2178 = some (.ireturn, 1, (0, 0, 0, 0), 0) := rfl
theorem s311_2178 {c : Nat → List AV → SS → Option Out} {l0 l1 l2 l3 l4 l5 l6 l7 : Option AV} {x : Int32} {L2 : List (Nat × AV)} {S : SS} : ev c 311 2178 [l0, l1, l2, l3, l4, l5, l6, l7] L2 [aI x] S = if x = 0 ∨ x = 1 then some (.inl (some (aI x)), S) else none := ev_rt i311_2178 rfl
theorem i311_2179 : insAt 311 2179 = some (.iload 6, 2, (0, 0, 0, 0), 0) := rfl
theorem s311_2179 {c : Nat → List AV → SS → Option Out} {l0 l1 l2 l3 l4 l5 l7 : Option AV} {x : Int32} {L2 : List (Nat × AV)} {St : List AV} {S : SS} : ev c 311 2179 [l0, l1, l2, l3, l4, l5, some (aI x), l7] L2 St S = ev c 311 2181 [l0, l1, l2, l3, l4, l5, some (aI x), l7] L2 (aI x :: St) S := ev_go i311_2179 rfl
theorem i311_2181 : insAt 311 2181 = some (.ifCond .ne 15, 3, (0, 0, 0, 0), 0) := rfl
theorem s311_2181 {c : Nat → List AV → SS → Option Out} {l0 l1 l2 l3 l4 l5 l6 l7 : Option AV} {x : Int32} {L2 : List (Nat × AV)} {St : List AV} {S : SS} : ev c 311 2181 [l0, l1, l2, l3, l4, l5, l6, l7] L2 (aI x :: St) S = if x = 0 then ev c 311 2184 [l0, l1, l2, l3, l4, l5, l6, l7] L2 St S else ev c 311 2196 [l0, l1, l2, l3, l4, l5, l6, l7] L2 St S := (ev_br i311_2181 rfl).trans (ite_not _ _ _)
theorem i311_2184 : insAt 311 2184 = some (.aload_n 3, 1, (0, 0, 0, 0), 0) := rfl
theorem s311_2184 {c : Nat → List AV → SS → Option Out} {l0 l1 l2 l4 l5 l6 l7 : Option AV} {o : OId} {L2 : List (Nat × AV)} {St : List AV} {S : SS} : ev c 311 2184 [l0, l1, l2, some (aR o), l4, l5, l6, l7] L2 St S = ev c 311 2185 [l0, l1, l2, some (aR o), l4, l5, l6, l7] L2 (aR o :: St) S := ev_go i311_2184 rfl
theorem i311_2185 : insAt 311 2185 = some (.iconst 0, 1, (0, 0, 0, 0), 0) := rfl
theorem s311_2185 {c : Nat → List AV → SS → Option Out} {l0 l1 l2 l3 l4 l5 l6 l7 : Option AV} {L2 : List (Nat × AV)} {St : List AV} {S : SS} : ev c 311 2185 [l0, l1, l2, l3, l4, l5, l6, l7] L2 St S = ev c 311 2186 [l0, l1, l2, l3, l4, l5, l6, l7] L2 (aI 0 :: St) S := ev_go i311_2185 rfl
theorem i311_2186 : insAt 311 2186 = some (.laload, 1, (0, 0, 0, 0), 0) := rfl
theorem s311_2186 {c : Nat → List AV → SS → Option Out} {l0 l1 l2 l3 l4 l5 l6 l7 : Option AV} {i : Int32} {o : OId} {L2 : List (Nat × AV)} {St : List AV} {S : SS} : ev c 311 2186 [l0, l1, l2, l3, l4, l5, l6, l7] L2 (aI i :: aR o :: St) S = kJ o i (ev c 311 2187 [l0, l1, l2, l3, l4, l5, l6, l7] L2 (aL (toL (S.2.1 o i.toNatClampNeg)) :: St) S) := ev_laload i311_2186
theorem i311_2187 : insAt 311 2187 = some (.iload 7, 2, (0, 0, 0, 0), 0) := rfl
theorem s311_2187 {c : Nat → List AV → SS → Option Out} {l0 l1 l2 l3 l4 l5 l6 : Option AV} {x : Int32} {L2 : List (Nat × AV)} {St : List AV} {S : SS} : ev c 311 2187 [l0, l1, l2, l3, l4, l5, l6, some (aI x)] L2 St S = ev c 311 2189 [l0, l1, l2, l3, l4, l5, l6, some (aI x)] L2 (aI x :: St) S := ev_go i311_2187 rfl
theorem i311_2189 : insAt 311 2189 = some (.i2l, 1, (0, 0, 0, 0), 0) := rfl
theorem s311_2189 {c : Nat → List AV → SS → Option Out} {l0 l1 l2 l3 l4 l5 l6 l7 : Option AV} {x : Int32} {L2 : List (Nat × AV)} {St : List AV} {S : SS} : ev c 311 2189 [l0, l1, l2, l3, l4, l5, l6, l7] L2 (aI x :: St) S = ev c 311 2190 [l0, l1, l2, l3, l4, l5, l6, l7] L2 (aL x.toInt64 :: St) S := ev_go i311_2189 rfl
theorem i311_2190 : insAt 311 2190 = some (.lcmp, 1, (0, 0, 0, 0), 0) := rfl
theorem s311_2190 {c : Nat → List AV → SS → Option Out} {l0 l1 l2 l3 l4 l5 l6 l7 : Option AV} {x y : Int64} {L2 : List (Nat × AV)} {St : List AV} {S : SS} : ev c 311 2190 [l0, l1, l2, l3, l4, l5, l6, l7] L2 (aL y :: aL x :: St) S = ev c 311 2191 [l0, l1, l2, l3, l4, l5, l6, l7] L2 (aI (if x < y then -1 else if x = y then 0 else 1) :: St) S := ev_go i311_2190 rfl
theorem i311_2191 : insAt 311 2191 = some (.ifCond .eq 5, 3, (0, 0, 0, 0), 0) := rfl
theorem s311_2191 {c : Nat → List AV → SS → Option Out} {l0 l1 l2 l3 l4 l5 l6 l7 : Option AV} {x : Int32} {L2 : List (Nat × AV)} {St : List AV} {S : SS} : ev c 311 2191 [l0, l1, l2, l3, l4, l5, l6, l7] L2 (aI x :: St) S = if x = 0 then ev c 311 2196 [l0, l1, l2, l3, l4, l5, l6, l7] L2 St S else ev c 311 2194 [l0, l1, l2, l3, l4, l5, l6, l7] L2 St S := ev_br i311_2191 rfl
theorem i311_2194 : insAt 311 2194 = some (.iconst 0, 1, (0, 0, 0, 0), 0) := rfl
theorem s311_2194 {c : Nat → List AV → SS → Option Out} {l0 l1 l2 l3 l4 l5 l6 l7 : Option AV} {L2 : List (Nat × AV)} {St : List AV} {S : SS} : ev c 311 2194 [l0, l1, l2, l3, l4, l5, l6, l7] L2 St S = ev c 311 2195 [l0, l1, l2, l3, l4, l5, l6, l7] L2 (aI 0 :: St) S := ev_go i311_2194 rfl
theorem i311_2195 : insAt 311 2195 = some (.ireturn, 1, (0, 0, 0, 0), 0) := rfl
theorem s311_2195 {c : Nat → List AV → SS → Option Out} {l0 l1 l2 l3 l4 l5 l6 l7 : Option AV} {x : Int32} {L2 : List (Nat × AV)} {S : SS} : ev c 311 2195 [l0, l1, l2, l3, l4, l5, l6, l7] L2 [aI x] S = if x = 0 ∨ x = 1 then some (.inl (some (aI x)), S) else none := ev_rt i311_2195 rfl
theorem i311_2196 : insAt 311 2196 = some (.goto 603, 3, (0, 0, 0, 0), 0) := rfl
theorem s311_2196 {c : Nat → List AV → SS → Option Out} {l0 l1 l2 l3 l4 l5 l6 l7 : Option AV} {L2 : List (Nat × AV)} {St : List AV} {S : SS} : ev c 311 2196 [l0, l1, l2, l3, l4, l5, l6, l7] L2 St S = ev c 311 2799 [l0, l1, l2, l3, l4, l5, l6, l7] L2 St S := ev_go i311_2196 rfl
theorem i311_2199 : insAt 311 2199 = some (.aload_n 1, 1, (0, 0, 0, 0), 0) := rfl
theorem s311_2199 {c : Nat → List AV → SS → Option Out} {l0 l2 l3 l4 l5 l6 l7 : Option AV} {o : OId} {L2 : List (Nat × AV)} {St : List AV} {S : SS} : ev c 311 2199 [l0, some (aR o), l2, l3, l4, l5, l6, l7] L2 St S = ev c 311 2200 [l0, some (aR o), l2, l3, l4, l5, l6, l7] L2 (aR o :: St) S := ev_go i311_2199 rfl
theorem i311_2200 : insAt 311 2200 = some (.aload_n 0, 1, (0, 0, 0, 0), 0) := rfl
theorem s311_2200 {c : Nat → List AV → SS → Option Out} {l1 l2 l3 l4 l5 l6 l7 : Option AV} {o : OId} {L2 : List (Nat × AV)} {St : List AV} {S : SS} : ev c 311 2200 [some (aR o), l1, l2, l3, l4, l5, l6, l7] L2 St S = ev c 311 2201 [some (aR o), l1, l2, l3, l4, l5, l6, l7] L2 (aR o :: St) S := ev_go i311_2200 rfl
theorem i311_2201 : insAt 311 2201 = some (.iload 5, 2, (0, 0, 0, 0), 0) := rfl
theorem s311_2201 {c : Nat → List AV → SS → Option Out} {l0 l1 l2 l3 l4 l6 l7 : Option AV} {x : Int32} {L2 : List (Nat × AV)} {St : List AV} {S : SS} : ev c 311 2201 [l0, l1, l2, l3, l4, some (aI x), l6, l7] L2 St S = ev c 311 2203 [l0, l1, l2, l3, l4, some (aI x), l6, l7] L2 (aI x :: St) S := ev_go i311_2201 rfl
theorem i311_2203 : insAt 311 2203 = some (.iconst 1, 1, (0, 0, 0, 0), 0) := rfl
theorem s311_2203 {c : Nat → List AV → SS → Option Out} {l0 l1 l2 l3 l4 l5 l6 l7 : Option AV} {L2 : List (Nat × AV)} {St : List AV} {S : SS} : ev c 311 2203 [l0, l1, l2, l3, l4, l5, l6, l7] L2 St S = ev c 311 2204 [l0, l1, l2, l3, l4, l5, l6, l7] L2 (aI 1 :: St) S := ev_go i311_2203 rfl
theorem i311_2204 : insAt 311 2204 = some (.iadd, 1, (0, 0, 0, 0), 0) := rfl
theorem s311_2204 {c : Nat → List AV → SS → Option Out} {l0 l1 l2 l3 l4 l5 l6 l7 : Option AV} {x y : Int32} {L2 : List (Nat × AV)} {St : List AV} {S : SS} : ev c 311 2204 [l0, l1, l2, l3, l4, l5, l6, l7] L2 (aI y :: aI x :: St) S = ev c 311 2205 [l0, l1, l2, l3, l4, l5, l6, l7] L2 (aI (x + y) :: St) S := ev_go i311_2204 rfl
theorem i311_2205 : insAt 311 2205 = some (.iaload, 1, (0, 0, 0, 0), 0) := rfl
theorem s311_2205 {c : Nat → List AV → SS → Option Out} {l0 l1 l2 l3 l4 l5 l6 l7 : Option AV} {i : Int32} {o : OId} {L2 : List (Nat × AV)} {St : List AV} {S : SS} : ev c 311 2205 [l0, l1, l2, l3, l4, l5, l6, l7] L2 (aI i :: aR o :: St) S = kI o i (ev c 311 2206 [l0, l1, l2, l3, l4, l5, l6, l7] L2 (aI (agI S o i.toNatClampNeg) :: St) S) := ev_iaload i311_2205
theorem i311_2206 : insAt 311 2206 = some (.aload_n 0, 1, (0, 0, 0, 0), 0) := rfl
theorem s311_2206 {c : Nat → List AV → SS → Option Out} {l1 l2 l3 l4 l5 l6 l7 : Option AV} {o : OId} {L2 : List (Nat × AV)} {St : List AV} {S : SS} : ev c 311 2206 [some (aR o), l1, l2, l3, l4, l5, l6, l7] L2 St S = ev c 311 2207 [some (aR o), l1, l2, l3, l4, l5, l6, l7] L2 (aR o :: St) S := ev_go i311_2206 rfl
theorem i311_2207 : insAt 311 2207 = some (.iload 5, 2, (0, 0, 0, 0), 0) := rfl
theorem s311_2207 {c : Nat → List AV → SS → Option Out} {l0 l1 l2 l3 l4 l6 l7 : Option AV} {x : Int32} {L2 : List (Nat × AV)} {St : List AV} {S : SS} : ev c 311 2207 [l0, l1, l2, l3, l4, some (aI x), l6, l7] L2 St S = ev c 311 2209 [l0, l1, l2, l3, l4, some (aI x), l6, l7] L2 (aI x :: St) S := ev_go i311_2207 rfl
theorem i311_2209 : insAt 311 2209 = some (.iconst 2, 1, (0, 0, 0, 0), 0) := rfl
theorem s311_2209 {c : Nat → List AV → SS → Option Out} {l0 l1 l2 l3 l4 l5 l6 l7 : Option AV} {L2 : List (Nat × AV)} {St : List AV} {S : SS} : ev c 311 2209 [l0, l1, l2, l3, l4, l5, l6, l7] L2 St S = ev c 311 2210 [l0, l1, l2, l3, l4, l5, l6, l7] L2 (aI 2 :: St) S := ev_go i311_2209 rfl
theorem i311_2210 : insAt 311 2210 = some (.iadd, 1, (0, 0, 0, 0), 0) := rfl
theorem s311_2210 {c : Nat → List AV → SS → Option Out} {l0 l1 l2 l3 l4 l5 l6 l7 : Option AV} {x y : Int32} {L2 : List (Nat × AV)} {St : List AV} {S : SS} : ev c 311 2210 [l0, l1, l2, l3, l4, l5, l6, l7] L2 (aI y :: aI x :: St) S = ev c 311 2211 [l0, l1, l2, l3, l4, l5, l6, l7] L2 (aI (x + y) :: St) S := ev_go i311_2210 rfl
theorem i311_2211 : insAt 311 2211 = some (.iaload, 1, (0, 0, 0, 0), 0) := rfl
theorem s311_2211 {c : Nat → List AV → SS → Option Out} {l0 l1 l2 l3 l4 l5 l6 l7 : Option AV} {i : Int32} {o : OId} {L2 : List (Nat × AV)} {St : List AV} {S : SS} : ev c 311 2211 [l0, l1, l2, l3, l4, l5, l6, l7] L2 (aI i :: aR o :: St) S = kI o i (ev c 311 2212 [l0, l1, l2, l3, l4, l5, l6, l7] L2 (aI (agI S o i.toNatClampNeg) :: St) S) := ev_iaload i311_2211
theorem i311_2212 : insAt 311 2212 = some (.aload_n 3, 1, (0, 0, 0, 0), 0) := rfl
theorem s311_2212 {c : Nat → List AV → SS → Option Out} {l0 l1 l2 l4 l5 l6 l7 : Option AV} {o : OId} {L2 : List (Nat × AV)} {St : List AV} {S : SS} : ev c 311 2212 [l0, l1, l2, some (aR o), l4, l5, l6, l7] L2 St S = ev c 311 2213 [l0, l1, l2, some (aR o), l4, l5, l6, l7] L2 (aR o :: St) S := ev_go i311_2212 rfl
theorem i311_2213 : insAt 311 2213 = some (.invokestatic 274, 3, (154, 4, 0, 0), 514) := rfl
theorem s311_2213 {c : Nat → List AV → SS → Option Out} {l0 l1 l2 l3 l4 l5 l6 l7 : Option AV} {a0 : OId} {a1 : Int32} {a2 : Int32} {a3 : OId} {L2 : List (Nat × AV)} {S : SS} : ev c 311 2213 [l0, l1, l2, l3, l4, l5, l6, l7] L2 [aR a3, aI a2, aI a1, aR a0] S = ck (c 154 [aR a0, aI a1, aI a2, aR a3] S) (fun v S' => ev c 311 2216 [l0, l1, l2, l3, l4, l5, l6, l7] L2 (v.toList ++ []) S') := ev_call i311_2213 rfl
theorem i311_2216 : insAt 311 2216 = some (.istore 6, 2, (0, 0, 0, 0), 0) := rfl
theorem s311_2216 {c : Nat → List AV → SS → Option Out} {l0 l1 l2 l3 l4 l5 l6 l7 : Option AV} {x : Int32} {L2 : List (Nat × AV)} {St : List AV} {S : SS} : ev c 311 2216 [l0, l1, l2, l3, l4, l5, l6, l7] L2 (aI x :: St) S = ev c 311 2218 [l0, l1, l2, l3, l4, l5, some (aI x), l7] (kil L2 6) St S := ev_go i311_2216 rfl
theorem i311_2218 : insAt 311 2218 = some (.aload_n 2, 1, (0, 0, 0, 0), 0) := rfl
theorem s311_2218 {c : Nat → List AV → SS → Option Out} {l0 l1 l3 l4 l5 l6 l7 : Option AV} {o : OId} {L2 : List (Nat × AV)} {St : List AV} {S : SS} : ev c 311 2218 [l0, l1, some (aR o), l3, l4, l5, l6, l7] L2 St S = ev c 311 2219 [l0, l1, some (aR o), l3, l4, l5, l6, l7] L2 (aR o :: St) S := ev_go i311_2218 rfl
theorem i311_2219 : insAt 311 2219 = some (.aload_n 0, 1, (0, 0, 0, 0), 0) := rfl
theorem s311_2219 {c : Nat → List AV → SS → Option Out} {l1 l2 l3 l4 l5 l6 l7 : Option AV} {o : OId} {L2 : List (Nat × AV)} {St : List AV} {S : SS} : ev c 311 2219 [some (aR o), l1, l2, l3, l4, l5, l6, l7] L2 St S = ev c 311 2220 [some (aR o), l1, l2, l3, l4, l5, l6, l7] L2 (aR o :: St) S := ev_go i311_2219 rfl
theorem i311_2220 : insAt 311 2220 = some (.iload 5, 2, (0, 0, 0, 0), 0) := rfl
theorem s311_2220 {c : Nat → List AV → SS → Option Out} {l0 l1 l2 l3 l4 l6 l7 : Option AV} {x : Int32} {L2 : List (Nat × AV)} {St : List AV} {S : SS} : ev c 311 2220 [l0, l1, l2, l3, l4, some (aI x), l6, l7] L2 St S = ev c 311 2222 [l0, l1, l2, l3, l4, some (aI x), l6, l7] L2 (aI x :: St) S := ev_go i311_2220 rfl
theorem i311_2222 : insAt 311 2222 = some (.iconst 1, 1, (0, 0, 0, 0), 0) := rfl
theorem s311_2222 {c : Nat → List AV → SS → Option Out} {l0 l1 l2 l3 l4 l5 l6 l7 : Option AV} {L2 : List (Nat × AV)} {St : List AV} {S : SS} : ev c 311 2222 [l0, l1, l2, l3, l4, l5, l6, l7] L2 St S = ev c 311 2223 [l0, l1, l2, l3, l4, l5, l6, l7] L2 (aI 1 :: St) S := ev_go i311_2222 rfl
theorem i311_2223 : insAt 311 2223 = some (.iadd, 1, (0, 0, 0, 0), 0) := rfl
theorem s311_2223 {c : Nat → List AV → SS → Option Out} {l0 l1 l2 l3 l4 l5 l6 l7 : Option AV} {x y : Int32} {L2 : List (Nat × AV)} {St : List AV} {S : SS} : ev c 311 2223 [l0, l1, l2, l3, l4, l5, l6, l7] L2 (aI y :: aI x :: St) S = ev c 311 2224 [l0, l1, l2, l3, l4, l5, l6, l7] L2 (aI (x + y) :: St) S := ev_go i311_2223 rfl
theorem i311_2224 : insAt 311 2224 = some (.iaload, 1, (0, 0, 0, 0), 0) := rfl
theorem s311_2224 {c : Nat → List AV → SS → Option Out} {l0 l1 l2 l3 l4 l5 l6 l7 : Option AV} {i : Int32} {o : OId} {L2 : List (Nat × AV)} {St : List AV} {S : SS} : ev c 311 2224 [l0, l1, l2, l3, l4, l5, l6, l7] L2 (aI i :: aR o :: St) S = kI o i (ev c 311 2225 [l0, l1, l2, l3, l4, l5, l6, l7] L2 (aI (agI S o i.toNatClampNeg) :: St) S) := ev_iaload i311_2224
theorem i311_2225 : insAt 311 2225 = some (.aload_n 0, 1, (0, 0, 0, 0), 0) := rfl
theorem s311_2225 {c : Nat → List AV → SS → Option Out} {l1 l2 l3 l4 l5 l6 l7 : Option AV} {o : OId} {L2 : List (Nat × AV)} {St : List AV} {S : SS} : ev c 311 2225 [some (aR o), l1, l2, l3, l4, l5, l6, l7] L2 St S = ev c 311 2226 [some (aR o), l1, l2, l3, l4, l5, l6, l7] L2 (aR o :: St) S := ev_go i311_2225 rfl
theorem i311_2226 : insAt 311 2226 = some (.iload 5, 2, (0, 0, 0, 0), 0) := rfl
theorem s311_2226 {c : Nat → List AV → SS → Option Out} {l0 l1 l2 l3 l4 l6 l7 : Option AV} {x : Int32} {L2 : List (Nat × AV)} {St : List AV} {S : SS} : ev c 311 2226 [l0, l1, l2, l3, l4, some (aI x), l6, l7] L2 St S = ev c 311 2228 [l0, l1, l2, l3, l4, some (aI x), l6, l7] L2 (aI x :: St) S := ev_go i311_2226 rfl
theorem i311_2228 : insAt 311 2228 = some (.iconst 2, 1, (0, 0, 0, 0), 0) := rfl
theorem s311_2228 {c : Nat → List AV → SS → Option Out} {l0 l1 l2 l3 l4 l5 l6 l7 : Option AV} {L2 : List (Nat × AV)} {St : List AV} {S : SS} : ev c 311 2228 [l0, l1, l2, l3, l4, l5, l6, l7] L2 St S = ev c 311 2229 [l0, l1, l2, l3, l4, l5, l6, l7] L2 (aI 2 :: St) S := ev_go i311_2228 rfl
theorem i311_2229 : insAt 311 2229 = some (.iadd, 1, (0, 0, 0, 0), 0) := rfl
theorem s311_2229 {c : Nat → List AV → SS → Option Out} {l0 l1 l2 l3 l4 l5 l6 l7 : Option AV} {x y : Int32} {L2 : List (Nat × AV)} {St : List AV} {S : SS} : ev c 311 2229 [l0, l1, l2, l3, l4, l5, l6, l7] L2 (aI y :: aI x :: St) S = ev c 311 2230 [l0, l1, l2, l3, l4, l5, l6, l7] L2 (aI (x + y) :: St) S := ev_go i311_2229 rfl
theorem i311_2230 : insAt 311 2230 = some (.iaload, 1, (0, 0, 0, 0), 0) := rfl
theorem s311_2230 {c : Nat → List AV → SS → Option Out} {l0 l1 l2 l3 l4 l5 l6 l7 : Option AV} {i : Int32} {o : OId} {L2 : List (Nat × AV)} {St : List AV} {S : SS} : ev c 311 2230 [l0, l1, l2, l3, l4, l5, l6, l7] L2 (aI i :: aR o :: St) S = kI o i (ev c 311 2231 [l0, l1, l2, l3, l4, l5, l6, l7] L2 (aI (agI S o i.toNatClampNeg) :: St) S) := ev_iaload i311_2230
theorem i311_2231 : insAt 311 2231 = some (.invokevirtual 276, 3, (291, 2, 2, 12), 515) := rfl
theorem s311_2231 {c : Nat → List AV → SS → Option Out} {l0 l1 l2 l3 l4 l5 l6 l7 : Option AV} {a0 : Int32} {a1 : Int32} {j t : Nat} {L2 : List (Nat × AV)} {S : SS} : ev c 311 2231 [l0, l1, l2, l3, l4, l5, l6, l7] L2 [aI a1, aI a0, aR (12, j, t)] S = ck (c 291 [aR (12, j, t), aI a0, aI a1] S) (fun v S' => ev c 311 2234 [l0, l1, l2, l3, l4, l5, l6, l7] L2 (v.toList ++ []) S') := ev_call i311_2231 rfl
theorem i311_2234 : insAt 311 2234 = some (.istore 7, 2, (0, 0, 0, 0), 0) := rfl
theorem s311_2234 {c : Nat → List AV → SS → Option Out} {l0 l1 l2 l3 l4 l5 l6 l7 : Option AV} {x : Int32} {L2 : List (Nat × AV)} {St : List AV} {S : SS} : ev c 311 2234 [l0, l1, l2, l3, l4, l5, l6, l7] L2 (aI x :: St) S = ev c 311 2236 [l0, l1, l2, l3, l4, l5, l6, some (aI x)] (kil L2 7) St S := ev_go i311_2234 rfl
theorem i311_2236 : insAt 311 2236 = some (.aload_n 2, 1, (0, 0, 0, 0), 0) := rfl
theorem s311_2236 {c : Nat → List AV → SS → Option Out} {l0 l1 l3 l4 l5 l6 l7 : Option AV} {o : OId} {L2 : List (Nat × AV)} {St : List AV} {S : SS} : ev c 311 2236 [l0, l1, some (aR o), l3, l4, l5, l6, l7] L2 St S = ev c 311 2237 [l0, l1, some (aR o), l3, l4, l5, l6, l7] L2 (aR o :: St) S := ev_go i311_2236 rfl
theorem i311_2237 : insAt 311 2237 = some (.invokevirtual 149, 3, (215, 0, 2, 12), 441) := rfl
theorem s311_2237 {c : Nat → List AV → SS → Option Out} {l0 l1 l2 l3 l4 l5 l6 l7 : Option AV} {j t : Nat} {L2 : List (Nat × AV)} {S : SS} : ev c 311 2237 [l0, l1, l2, l3, l4, l5, l6, l7] L2 [aR (12, j, t)] S = ck (c 215 [aR (12, j, t)] S) (fun v S' => ev c 311 2240 [l0, l1, l2, l3, l4, l5, l6, l7] L2 (v.toList ++ []) S') := ev_call i311_2237 rfl
theorem i311_2240 : insAt 311 2240 = some (.iload 6, 2, (0, 0, 0, 0), 0) := rfl
theorem s311_2240 {c : Nat → List AV → SS → Option Out} {l0 l1 l2 l3 l4 l5 l7 : Option AV} {x : Int32} {L2 : List (Nat × AV)} {St : List AV} {S : SS} : ev c 311 2240 [l0, l1, l2, l3, l4, l5, some (aI x), l7] L2 St S = ev c 311 2242 [l0, l1, l2, l3, l4, l5, some (aI x), l7] L2 (aI x :: St) S := ev_go i311_2240 rfl
theorem i311_2242 : insAt 311 2242 = some (.if_icmp .eq 5, 3, (0, 0, 0, 0), 0) := rfl
theorem s311_2242 {c : Nat → List AV → SS → Option Out} {l0 l1 l2 l3 l4 l5 l6 l7 : Option AV} {x y : Int32} {L2 : List (Nat × AV)} {St : List AV} {S : SS} : ev c 311 2242 [l0, l1, l2, l3, l4, l5, l6, l7] L2 (aI y :: aI x :: St) S = if x = y then ev c 311 2247 [l0, l1, l2, l3, l4, l5, l6, l7] L2 St S else ev c 311 2245 [l0, l1, l2, l3, l4, l5, l6, l7] L2 St S := ev_br i311_2242 rfl
theorem i311_2245 : insAt 311 2245 = some (.iconst 0, 1, (0, 0, 0, 0), 0) := rfl
theorem s311_2245 {c : Nat → List AV → SS → Option Out} {l0 l1 l2 l3 l4 l5 l6 l7 : Option AV} {L2 : List (Nat × AV)} {St : List AV} {S : SS} : ev c 311 2245 [l0, l1, l2, l3, l4, l5, l6, l7] L2 St S = ev c 311 2246 [l0, l1, l2, l3, l4, l5, l6, l7] L2 (aI 0 :: St) S := ev_go i311_2245 rfl
theorem i311_2246 : insAt 311 2246 = some (.ireturn, 1, (0, 0, 0, 0), 0) := rfl
theorem s311_2246 {c : Nat → List AV → SS → Option Out} {l0 l1 l2 l3 l4 l5 l6 l7 : Option AV} {x : Int32} {L2 : List (Nat × AV)} {S : SS} : ev c 311 2246 [l0, l1, l2, l3, l4, l5, l6, l7] L2 [aI x] S = if x = 0 ∨ x = 1 then some (.inl (some (aI x)), S) else none := ev_rt i311_2246 rfl
theorem i311_2247 : insAt 311 2247 = some (.iload 6, 2, (0, 0, 0, 0), 0) := rfl
theorem s311_2247 {c : Nat → List AV → SS → Option Out} {l0 l1 l2 l3 l4 l5 l7 : Option AV} {x : Int32} {L2 : List (Nat × AV)} {St : List AV} {S : SS} : ev c 311 2247 [l0, l1, l2, l3, l4, l5, some (aI x), l7] L2 St S = ev c 311 2249 [l0, l1, l2, l3, l4, l5, some (aI x), l7] L2 (aI x :: St) S := ev_go i311_2247 rfl
theorem i311_2249 : insAt 311 2249 = some (.ifCond .ne 15, 3, (0, 0, 0, 0), 0) := rfl
theorem s311_2249 {c : Nat → List AV → SS → Option Out} {l0 l1 l2 l3 l4 l5 l6 l7 : Option AV} {x : Int32} {L2 : List (Nat × AV)} {St : List AV} {S : SS} : ev c 311 2249 [l0, l1, l2, l3, l4, l5, l6, l7] L2 (aI x :: St) S = if x = 0 then ev c 311 2252 [l0, l1, l2, l3, l4, l5, l6, l7] L2 St S else ev c 311 2264 [l0, l1, l2, l3, l4, l5, l6, l7] L2 St S := (ev_br i311_2249 rfl).trans (ite_not _ _ _)
theorem i311_2252 : insAt 311 2252 = some (.aload_n 3, 1, (0, 0, 0, 0), 0) := rfl
theorem s311_2252 {c : Nat → List AV → SS → Option Out} {l0 l1 l2 l4 l5 l6 l7 : Option AV} {o : OId} {L2 : List (Nat × AV)} {St : List AV} {S : SS} : ev c 311 2252 [l0, l1, l2, some (aR o), l4, l5, l6, l7] L2 St S = ev c 311 2253 [l0, l1, l2, some (aR o), l4, l5, l6, l7] L2 (aR o :: St) S := ev_go i311_2252 rfl
theorem i311_2253 : insAt 311 2253 = some (.iconst 0, 1, (0, 0, 0, 0), 0) := rfl
theorem s311_2253 {c : Nat → List AV → SS → Option Out} {l0 l1 l2 l3 l4 l5 l6 l7 : Option AV} {L2 : List (Nat × AV)} {St : List AV} {S : SS} : ev c 311 2253 [l0, l1, l2, l3, l4, l5, l6, l7] L2 St S = ev c 311 2254 [l0, l1, l2, l3, l4, l5, l6, l7] L2 (aI 0 :: St) S := ev_go i311_2253 rfl
theorem i311_2254 : insAt 311 2254 = some (.laload, 1, (0, 0, 0, 0), 0) := rfl
theorem s311_2254 {c : Nat → List AV → SS → Option Out} {l0 l1 l2 l3 l4 l5 l6 l7 : Option AV} {i : Int32} {o : OId} {L2 : List (Nat × AV)} {St : List AV} {S : SS} : ev c 311 2254 [l0, l1, l2, l3, l4, l5, l6, l7] L2 (aI i :: aR o :: St) S = kJ o i (ev c 311 2255 [l0, l1, l2, l3, l4, l5, l6, l7] L2 (aL (toL (S.2.1 o i.toNatClampNeg)) :: St) S) := ev_laload i311_2254
theorem i311_2255 : insAt 311 2255 = some (.iload 7, 2, (0, 0, 0, 0), 0) := rfl
theorem s311_2255 {c : Nat → List AV → SS → Option Out} {l0 l1 l2 l3 l4 l5 l6 : Option AV} {x : Int32} {L2 : List (Nat × AV)} {St : List AV} {S : SS} : ev c 311 2255 [l0, l1, l2, l3, l4, l5, l6, some (aI x)] L2 St S = ev c 311 2257 [l0, l1, l2, l3, l4, l5, l6, some (aI x)] L2 (aI x :: St) S := ev_go i311_2255 rfl
theorem i311_2257 : insAt 311 2257 = some (.i2l, 1, (0, 0, 0, 0), 0) := rfl
theorem s311_2257 {c : Nat → List AV → SS → Option Out} {l0 l1 l2 l3 l4 l5 l6 l7 : Option AV} {x : Int32} {L2 : List (Nat × AV)} {St : List AV} {S : SS} : ev c 311 2257 [l0, l1, l2, l3, l4, l5, l6, l7] L2 (aI x :: St) S = ev c 311 2258 [l0, l1, l2, l3, l4, l5, l6, l7] L2 (aL x.toInt64 :: St) S := ev_go i311_2257 rfl
theorem i311_2258 : insAt 311 2258 = some (.lcmp, 1, (0, 0, 0, 0), 0) := rfl
theorem s311_2258 {c : Nat → List AV → SS → Option Out} {l0 l1 l2 l3 l4 l5 l6 l7 : Option AV} {x y : Int64} {L2 : List (Nat × AV)} {St : List AV} {S : SS} : ev c 311 2258 [l0, l1, l2, l3, l4, l5, l6, l7] L2 (aL y :: aL x :: St) S = ev c 311 2259 [l0, l1, l2, l3, l4, l5, l6, l7] L2 (aI (if x < y then -1 else if x = y then 0 else 1) :: St) S := ev_go i311_2258 rfl
theorem i311_2259 : insAt 311 2259 = some (.ifCond .eq 5, 3, (0, 0, 0, 0), 0) := rfl
theorem s311_2259 {c : Nat → List AV → SS → Option Out} {l0 l1 l2 l3 l4 l5 l6 l7 : Option AV} {x : Int32} {L2 : List (Nat × AV)} {St : List AV} {S : SS} : ev c 311 2259 [l0, l1, l2, l3, l4, l5, l6, l7] L2 (aI x :: St) S = if x = 0 then ev c 311 2264 [l0, l1, l2, l3, l4, l5, l6, l7] L2 St S else ev c 311 2262 [l0, l1, l2, l3, l4, l5, l6, l7] L2 St S := ev_br i311_2259 rfl
theorem i311_2262 : insAt 311 2262 = some (.iconst 0, 1, (0, 0, 0, 0), 0) := rfl
theorem s311_2262 {c : Nat → List AV → SS → Option Out} {l0 l1 l2 l3 l4 l5 l6 l7 : Option AV} {L2 : List (Nat × AV)} {St : List AV} {S : SS} : ev c 311 2262 [l0, l1, l2, l3, l4, l5, l6, l7] L2 St S = ev c 311 2263 [l0, l1, l2, l3, l4, l5, l6, l7] L2 (aI 0 :: St) S := ev_go i311_2262 rfl
theorem i311_2263 : insAt 311 2263 = some (.ireturn, 1, (0, 0, 0, 0), 0) := rfl
theorem s311_2263 {c : Nat → List AV → SS → Option Out} {l0 l1 l2 l3 l4 l5 l6 l7 : Option AV} {x : Int32} {L2 : List (Nat × AV)} {S : SS} : ev c 311 2263 [l0, l1, l2, l3, l4, l5, l6, l7] L2 [aI x] S = if x = 0 ∨ x = 1 then some (.inl (some (aI x)), S) else none := ev_rt i311_2263 rfl
theorem i311_2264 : insAt 311 2264 = some (.goto 535, 3, (0, 0, 0, 0), 0) := rfl
theorem s311_2264 {c : Nat → List AV → SS → Option Out} {l0 l1 l2 l3 l4 l5 l6 l7 : Option AV} {L2 : List (Nat × AV)} {St : List AV} {S : SS} : ev c 311 2264 [l0, l1, l2, l3, l4, l5, l6, l7] L2 St S = ev c 311 2799 [l0, l1, l2, l3, l4, l5, l6, l7] L2 St S := ev_go i311_2264 rfl
theorem i311_2267 : insAt 311 2267 = some (.aload_n 1, 1, (0, 0, 0, 0), 0) := rfl
theorem s311_2267 {c : Nat → List AV → SS → Option Out} {l0 l2 l3 l4 l5 l6 l7 : Option AV} {o : OId} {L2 : List (Nat × AV)} {St : List AV} {S : SS} : ev c 311 2267 [l0, some (aR o), l2, l3, l4, l5, l6, l7] L2 St S = ev c 311 2268 [l0, some (aR o), l2, l3, l4, l5, l6, l7] L2 (aR o :: St) S := ev_go i311_2267 rfl
theorem i311_2268 : insAt 311 2268 = some (.aload_n 0, 1, (0, 0, 0, 0), 0) := rfl
theorem s311_2268 {c : Nat → List AV → SS → Option Out} {l1 l2 l3 l4 l5 l6 l7 : Option AV} {o : OId} {L2 : List (Nat × AV)} {St : List AV} {S : SS} : ev c 311 2268 [some (aR o), l1, l2, l3, l4, l5, l6, l7] L2 St S = ev c 311 2269 [some (aR o), l1, l2, l3, l4, l5, l6, l7] L2 (aR o :: St) S := ev_go i311_2268 rfl
theorem i311_2269 : insAt 311 2269 = some (.iload 5, 2, (0, 0, 0, 0), 0) := rfl
theorem s311_2269 {c : Nat → List AV → SS → Option Out} {l0 l1 l2 l3 l4 l6 l7 : Option AV} {x : Int32} {L2 : List (Nat × AV)} {St : List AV} {S : SS} : ev c 311 2269 [l0, l1, l2, l3, l4, some (aI x), l6, l7] L2 St S = ev c 311 2271 [l0, l1, l2, l3, l4, some (aI x), l6, l7] L2 (aI x :: St) S := ev_go i311_2269 rfl
theorem i311_2271 : insAt 311 2271 = some (.iconst 1, 1, (0, 0, 0, 0), 0) := rfl
theorem s311_2271 {c : Nat → List AV → SS → Option Out} {l0 l1 l2 l3 l4 l5 l6 l7 : Option AV} {L2 : List (Nat × AV)} {St : List AV} {S : SS} : ev c 311 2271 [l0, l1, l2, l3, l4, l5, l6, l7] L2 St S = ev c 311 2272 [l0, l1, l2, l3, l4, l5, l6, l7] L2 (aI 1 :: St) S := ev_go i311_2271 rfl
theorem i311_2272 : insAt 311 2272 = some (.iadd, 1, (0, 0, 0, 0), 0) := rfl
theorem s311_2272 {c : Nat → List AV → SS → Option Out} {l0 l1 l2 l3 l4 l5 l6 l7 : Option AV} {x y : Int32} {L2 : List (Nat × AV)} {St : List AV} {S : SS} : ev c 311 2272 [l0, l1, l2, l3, l4, l5, l6, l7] L2 (aI y :: aI x :: St) S = ev c 311 2273 [l0, l1, l2, l3, l4, l5, l6, l7] L2 (aI (x + y) :: St) S := ev_go i311_2272 rfl
theorem i311_2273 : insAt 311 2273 = some (.iaload, 1, (0, 0, 0, 0), 0) := rfl
theorem s311_2273 {c : Nat → List AV → SS → Option Out} {l0 l1 l2 l3 l4 l5 l6 l7 : Option AV} {i : Int32} {o : OId} {L2 : List (Nat × AV)} {St : List AV} {S : SS} : ev c 311 2273 [l0, l1, l2, l3, l4, l5, l6, l7] L2 (aI i :: aR o :: St) S = kI o i (ev c 311 2274 [l0, l1, l2, l3, l4, l5, l6, l7] L2 (aI (agI S o i.toNatClampNeg) :: St) S) := ev_iaload i311_2273
theorem i311_2274 : insAt 311 2274 = some (.aload_n 0, 1, (0, 0, 0, 0), 0) := rfl
theorem s311_2274 {c : Nat → List AV → SS → Option Out} {l1 l2 l3 l4 l5 l6 l7 : Option AV} {o : OId} {L2 : List (Nat × AV)} {St : List AV} {S : SS} : ev c 311 2274 [some (aR o), l1, l2, l3, l4, l5, l6, l7] L2 St S = ev c 311 2275 [some (aR o), l1, l2, l3, l4, l5, l6, l7] L2 (aR o :: St) S := ev_go i311_2274 rfl
theorem i311_2275 : insAt 311 2275 = some (.iload 5, 2, (0, 0, 0, 0), 0) := rfl
theorem s311_2275 {c : Nat → List AV → SS → Option Out} {l0 l1 l2 l3 l4 l6 l7 : Option AV} {x : Int32} {L2 : List (Nat × AV)} {St : List AV} {S : SS} : ev c 311 2275 [l0, l1, l2, l3, l4, some (aI x), l6, l7] L2 St S = ev c 311 2277 [l0, l1, l2, l3, l4, some (aI x), l6, l7] L2 (aI x :: St) S := ev_go i311_2275 rfl
theorem i311_2277 : insAt 311 2277 = some (.iconst 2, 1, (0, 0, 0, 0), 0) := rfl
theorem s311_2277 {c : Nat → List AV → SS → Option Out} {l0 l1 l2 l3 l4 l5 l6 l7 : Option AV} {L2 : List (Nat × AV)} {St : List AV} {S : SS} : ev c 311 2277 [l0, l1, l2, l3, l4, l5, l6, l7] L2 St S = ev c 311 2278 [l0, l1, l2, l3, l4, l5, l6, l7] L2 (aI 2 :: St) S := ev_go i311_2277 rfl
theorem i311_2278 : insAt 311 2278 = some (.iadd, 1, (0, 0, 0, 0), 0) := rfl
theorem s311_2278 {c : Nat → List AV → SS → Option Out} {l0 l1 l2 l3 l4 l5 l6 l7 : Option AV} {x y : Int32} {L2 : List (Nat × AV)} {St : List AV} {S : SS} : ev c 311 2278 [l0, l1, l2, l3, l4, l5, l6, l7] L2 (aI y :: aI x :: St) S = ev c 311 2279 [l0, l1, l2, l3, l4, l5, l6, l7] L2 (aI (x + y) :: St) S := ev_go i311_2278 rfl
theorem i311_2279 : insAt 311 2279 = some (.iaload, 1, (0, 0, 0, 0), 0) := rfl
theorem s311_2279 {c : Nat → List AV → SS → Option Out} {l0 l1 l2 l3 l4 l5 l6 l7 : Option AV} {i : Int32} {o : OId} {L2 : List (Nat × AV)} {St : List AV} {S : SS} : ev c 311 2279 [l0, l1, l2, l3, l4, l5, l6, l7] L2 (aI i :: aR o :: St) S = kI o i (ev c 311 2280 [l0, l1, l2, l3, l4, l5, l6, l7] L2 (aI (agI S o i.toNatClampNeg) :: St) S) := ev_iaload i311_2279
theorem i311_2280 : insAt 311 2280 = some (.aload_n 3, 1, (0, 0, 0, 0), 0) := rfl
theorem s311_2280 {c : Nat → List AV → SS → Option Out} {l0 l1 l2 l4 l5 l6 l7 : Option AV} {o : OId} {L2 : List (Nat × AV)} {St : List AV} {S : SS} : ev c 311 2280 [l0, l1, l2, some (aR o), l4, l5, l6, l7] L2 St S = ev c 311 2281 [l0, l1, l2, some (aR o), l4, l5, l6, l7] L2 (aR o :: St) S := ev_go i311_2280 rfl
theorem i311_2281 : insAt 311 2281 = some (.invokestatic 277, 3, (156, 4, 0, 0), 516) := rfl
theorem s311_2281 {c : Nat → List AV → SS → Option Out} {l0 l1 l2 l3 l4 l5 l6 l7 : Option AV} {a0 : OId} {a1 : Int32} {a2 : Int32} {a3 : OId} {L2 : List (Nat × AV)} {S : SS} : ev c 311 2281 [l0, l1, l2, l3, l4, l5, l6, l7] L2 [aR a3, aI a2, aI a1, aR a0] S = ck (c 156 [aR a0, aI a1, aI a2, aR a3] S) (fun v S' => ev c 311 2284 [l0, l1, l2, l3, l4, l5, l6, l7] L2 (v.toList ++ []) S') := ev_call i311_2281 rfl
theorem i311_2284 : insAt 311 2284 = some (.istore 6, 2, (0, 0, 0, 0), 0) := rfl
theorem s311_2284 {c : Nat → List AV → SS → Option Out} {l0 l1 l2 l3 l4 l5 l6 l7 : Option AV} {x : Int32} {L2 : List (Nat × AV)} {St : List AV} {S : SS} : ev c 311 2284 [l0, l1, l2, l3, l4, l5, l6, l7] L2 (aI x :: St) S = ev c 311 2286 [l0, l1, l2, l3, l4, l5, some (aI x), l7] (kil L2 6) St S := ev_go i311_2284 rfl
theorem i311_2286 : insAt 311 2286 = some (.aload_n 2, 1, (0, 0, 0, 0), 0) := rfl
theorem s311_2286 {c : Nat → List AV → SS → Option Out} {l0 l1 l3 l4 l5 l6 l7 : Option AV} {o : OId} {L2 : List (Nat × AV)} {St : List AV} {S : SS} : ev c 311 2286 [l0, l1, some (aR o), l3, l4, l5, l6, l7] L2 St S = ev c 311 2287 [l0, l1, some (aR o), l3, l4, l5, l6, l7] L2 (aR o :: St) S := ev_go i311_2286 rfl
theorem i311_2287 : insAt 311 2287 = some (.aload_n 0, 1, (0, 0, 0, 0), 0) := rfl
theorem s311_2287 {c : Nat → List AV → SS → Option Out} {l1 l2 l3 l4 l5 l6 l7 : Option AV} {o : OId} {L2 : List (Nat × AV)} {St : List AV} {S : SS} : ev c 311 2287 [some (aR o), l1, l2, l3, l4, l5, l6, l7] L2 St S = ev c 311 2288 [some (aR o), l1, l2, l3, l4, l5, l6, l7] L2 (aR o :: St) S := ev_go i311_2287 rfl
theorem i311_2288 : insAt 311 2288 = some (.iload 5, 2, (0, 0, 0, 0), 0) := rfl
theorem s311_2288 {c : Nat → List AV → SS → Option Out} {l0 l1 l2 l3 l4 l6 l7 : Option AV} {x : Int32} {L2 : List (Nat × AV)} {St : List AV} {S : SS} : ev c 311 2288 [l0, l1, l2, l3, l4, some (aI x), l6, l7] L2 St S = ev c 311 2290 [l0, l1, l2, l3, l4, some (aI x), l6, l7] L2 (aI x :: St) S := ev_go i311_2288 rfl
theorem i311_2290 : insAt 311 2290 = some (.iconst 1, 1, (0, 0, 0, 0), 0) := rfl
theorem s311_2290 {c : Nat → List AV → SS → Option Out} {l0 l1 l2 l3 l4 l5 l6 l7 : Option AV} {L2 : List (Nat × AV)} {St : List AV} {S : SS} : ev c 311 2290 [l0, l1, l2, l3, l4, l5, l6, l7] L2 St S = ev c 311 2291 [l0, l1, l2, l3, l4, l5, l6, l7] L2 (aI 1 :: St) S := ev_go i311_2290 rfl
theorem i311_2291 : insAt 311 2291 = some (.iadd, 1, (0, 0, 0, 0), 0) := rfl
theorem s311_2291 {c : Nat → List AV → SS → Option Out} {l0 l1 l2 l3 l4 l5 l6 l7 : Option AV} {x y : Int32} {L2 : List (Nat × AV)} {St : List AV} {S : SS} : ev c 311 2291 [l0, l1, l2, l3, l4, l5, l6, l7] L2 (aI y :: aI x :: St) S = ev c 311 2292 [l0, l1, l2, l3, l4, l5, l6, l7] L2 (aI (x + y) :: St) S := ev_go i311_2291 rfl
theorem i311_2292 : insAt 311 2292 = some (.iaload, 1, (0, 0, 0, 0), 0) := rfl
theorem s311_2292 {c : Nat → List AV → SS → Option Out} {l0 l1 l2 l3 l4 l5 l6 l7 : Option AV} {i : Int32} {o : OId} {L2 : List (Nat × AV)} {St : List AV} {S : SS} : ev c 311 2292 [l0, l1, l2, l3, l4, l5, l6, l7] L2 (aI i :: aR o :: St) S = kI o i (ev c 311 2293 [l0, l1, l2, l3, l4, l5, l6, l7] L2 (aI (agI S o i.toNatClampNeg) :: St) S) := ev_iaload i311_2292
theorem i311_2293 : insAt 311 2293 = some (.aload_n 0, 1, (0, 0, 0, 0), 0) := rfl
theorem s311_2293 {c : Nat → List AV → SS → Option Out} {l1 l2 l3 l4 l5 l6 l7 : Option AV} {o : OId} {L2 : List (Nat × AV)} {St : List AV} {S : SS} : ev c 311 2293 [some (aR o), l1, l2, l3, l4, l5, l6, l7] L2 St S = ev c 311 2294 [some (aR o), l1, l2, l3, l4, l5, l6, l7] L2 (aR o :: St) S := ev_go i311_2293 rfl
theorem i311_2294 : insAt 311 2294 = some (.iload 5, 2, (0, 0, 0, 0), 0) := rfl
theorem s311_2294 {c : Nat → List AV → SS → Option Out} {l0 l1 l2 l3 l4 l6 l7 : Option AV} {x : Int32} {L2 : List (Nat × AV)} {St : List AV} {S : SS} : ev c 311 2294 [l0, l1, l2, l3, l4, some (aI x), l6, l7] L2 St S = ev c 311 2296 [l0, l1, l2, l3, l4, some (aI x), l6, l7] L2 (aI x :: St) S := ev_go i311_2294 rfl
theorem i311_2296 : insAt 311 2296 = some (.iconst 2, 1, (0, 0, 0, 0), 0) := rfl
theorem s311_2296 {c : Nat → List AV → SS → Option Out} {l0 l1 l2 l3 l4 l5 l6 l7 : Option AV} {L2 : List (Nat × AV)} {St : List AV} {S : SS} : ev c 311 2296 [l0, l1, l2, l3, l4, l5, l6, l7] L2 St S = ev c 311 2297 [l0, l1, l2, l3, l4, l5, l6, l7] L2 (aI 2 :: St) S := ev_go i311_2296 rfl
theorem i311_2297 : insAt 311 2297 = some (.iadd, 1, (0, 0, 0, 0), 0) := rfl
theorem s311_2297 {c : Nat → List AV → SS → Option Out} {l0 l1 l2 l3 l4 l5 l6 l7 : Option AV} {x y : Int32} {L2 : List (Nat × AV)} {St : List AV} {S : SS} : ev c 311 2297 [l0, l1, l2, l3, l4, l5, l6, l7] L2 (aI y :: aI x :: St) S = ev c 311 2298 [l0, l1, l2, l3, l4, l5, l6, l7] L2 (aI (x + y) :: St) S := ev_go i311_2297 rfl
theorem i311_2298 : insAt 311 2298 = some (.iaload, 1, (0, 0, 0, 0), 0) := rfl
theorem s311_2298 {c : Nat → List AV → SS → Option Out} {l0 l1 l2 l3 l4 l5 l6 l7 : Option AV} {i : Int32} {o : OId} {L2 : List (Nat × AV)} {St : List AV} {S : SS} : ev c 311 2298 [l0, l1, l2, l3, l4, l5, l6, l7] L2 (aI i :: aR o :: St) S = kI o i (ev c 311 2299 [l0, l1, l2, l3, l4, l5, l6, l7] L2 (aI (agI S o i.toNatClampNeg) :: St) S) := ev_iaload i311_2298
theorem i311_2299 : insAt 311 2299 = some (.invokevirtual 279, 3, (293, 2, 2, 12), 517) := rfl
theorem s311_2299 {c : Nat → List AV → SS → Option Out} {l0 l1 l2 l3 l4 l5 l6 l7 : Option AV} {a0 : Int32} {a1 : Int32} {j t : Nat} {L2 : List (Nat × AV)} {S : SS} : ev c 311 2299 [l0, l1, l2, l3, l4, l5, l6, l7] L2 [aI a1, aI a0, aR (12, j, t)] S = ck (c 293 [aR (12, j, t), aI a0, aI a1] S) (fun v S' => ev c 311 2302 [l0, l1, l2, l3, l4, l5, l6, l7] L2 (v.toList ++ []) S') := ev_call i311_2299 rfl
theorem i311_2302 : insAt 311 2302 = some (.istore 7, 2, (0, 0, 0, 0), 0) := rfl
theorem s311_2302 {c : Nat → List AV → SS → Option Out} {l0 l1 l2 l3 l4 l5 l6 l7 : Option AV} {x : Int32} {L2 : List (Nat × AV)} {St : List AV} {S : SS} : ev c 311 2302 [l0, l1, l2, l3, l4, l5, l6, l7] L2 (aI x :: St) S = ev c 311 2304 [l0, l1, l2, l3, l4, l5, l6, some (aI x)] (kil L2 7) St S := ev_go i311_2302 rfl
theorem i311_2304 : insAt 311 2304 = some (.aload_n 2, 1, (0, 0, 0, 0), 0) := rfl
theorem s311_2304 {c : Nat → List AV → SS → Option Out} {l0 l1 l3 l4 l5 l6 l7 : Option AV} {o : OId} {L2 : List (Nat × AV)} {St : List AV} {S : SS} : ev c 311 2304 [l0, l1, some (aR o), l3, l4, l5, l6, l7] L2 St S = ev c 311 2305 [l0, l1, some (aR o), l3, l4, l5, l6, l7] L2 (aR o :: St) S := ev_go i311_2304 rfl
theorem i311_2305 : insAt 311 2305 = some (.invokevirtual 149, 3, (215, 0, 2, 12), 441) := rfl
theorem s311_2305 {c : Nat → List AV → SS → Option Out} {l0 l1 l2 l3 l4 l5 l6 l7 : Option AV} {j t : Nat} {L2 : List (Nat × AV)} {S : SS} : ev c 311 2305 [l0, l1, l2, l3, l4, l5, l6, l7] L2 [aR (12, j, t)] S = ck (c 215 [aR (12, j, t)] S) (fun v S' => ev c 311 2308 [l0, l1, l2, l3, l4, l5, l6, l7] L2 (v.toList ++ []) S') := ev_call i311_2305 rfl
theorem i311_2308 : insAt 311 2308 = some (.iload 6, 2, (0, 0, 0, 0), 0) := rfl
theorem s311_2308 {c : Nat → List AV → SS → Option Out} {l0 l1 l2 l3 l4 l5 l7 : Option AV} {x : Int32} {L2 : List (Nat × AV)} {St : List AV} {S : SS} : ev c 311 2308 [l0, l1, l2, l3, l4, l5, some (aI x), l7] L2 St S = ev c 311 2310 [l0, l1, l2, l3, l4, l5, some (aI x), l7] L2 (aI x :: St) S := ev_go i311_2308 rfl
theorem i311_2310 : insAt 311 2310 = some (.if_icmp .eq 5, 3, (0, 0, 0, 0), 0) := rfl
theorem s311_2310 {c : Nat → List AV → SS → Option Out} {l0 l1 l2 l3 l4 l5 l6 l7 : Option AV} {x y : Int32} {L2 : List (Nat × AV)} {St : List AV} {S : SS} : ev c 311 2310 [l0, l1, l2, l3, l4, l5, l6, l7] L2 (aI y :: aI x :: St) S = if x = y then ev c 311 2315 [l0, l1, l2, l3, l4, l5, l6, l7] L2 St S else ev c 311 2313 [l0, l1, l2, l3, l4, l5, l6, l7] L2 St S := ev_br i311_2310 rfl
theorem i311_2313 : insAt 311 2313 = some (.iconst 0, 1, (0, 0, 0, 0), 0) := rfl
theorem s311_2313 {c : Nat → List AV → SS → Option Out} {l0 l1 l2 l3 l4 l5 l6 l7 : Option AV} {L2 : List (Nat × AV)} {St : List AV} {S : SS} : ev c 311 2313 [l0, l1, l2, l3, l4, l5, l6, l7] L2 St S = ev c 311 2314 [l0, l1, l2, l3, l4, l5, l6, l7] L2 (aI 0 :: St) S := ev_go i311_2313 rfl
theorem i311_2314 : insAt 311 2314 = some (.ireturn, 1, (0, 0, 0, 0), 0) := rfl
theorem s311_2314 {c : Nat → List AV → SS → Option Out} {l0 l1 l2 l3 l4 l5 l6 l7 : Option AV} {x : Int32} {L2 : List (Nat × AV)} {S : SS} : ev c 311 2314 [l0, l1, l2, l3, l4, l5, l6, l7] L2 [aI x] S = if x = 0 ∨ x = 1 then some (.inl (some (aI x)), S) else none := ev_rt i311_2314 rfl
theorem i311_2315 : insAt 311 2315 = some (.iload 6, 2, (0, 0, 0, 0), 0) := rfl
theorem s311_2315 {c : Nat → List AV → SS → Option Out} {l0 l1 l2 l3 l4 l5 l7 : Option AV} {x : Int32} {L2 : List (Nat × AV)} {St : List AV} {S : SS} : ev c 311 2315 [l0, l1, l2, l3, l4, l5, some (aI x), l7] L2 St S = ev c 311 2317 [l0, l1, l2, l3, l4, l5, some (aI x), l7] L2 (aI x :: St) S := ev_go i311_2315 rfl
theorem i311_2317 : insAt 311 2317 = some (.ifCond .ne 15, 3, (0, 0, 0, 0), 0) := rfl
theorem s311_2317 {c : Nat → List AV → SS → Option Out} {l0 l1 l2 l3 l4 l5 l6 l7 : Option AV} {x : Int32} {L2 : List (Nat × AV)} {St : List AV} {S : SS} : ev c 311 2317 [l0, l1, l2, l3, l4, l5, l6, l7] L2 (aI x :: St) S = if x = 0 then ev c 311 2320 [l0, l1, l2, l3, l4, l5, l6, l7] L2 St S else ev c 311 2332 [l0, l1, l2, l3, l4, l5, l6, l7] L2 St S := (ev_br i311_2317 rfl).trans (ite_not _ _ _)
theorem i311_2320 : insAt 311 2320 = some (.aload_n 3, 1, (0, 0, 0, 0), 0) := rfl
theorem s311_2320 {c : Nat → List AV → SS → Option Out} {l0 l1 l2 l4 l5 l6 l7 : Option AV} {o : OId} {L2 : List (Nat × AV)} {St : List AV} {S : SS} : ev c 311 2320 [l0, l1, l2, some (aR o), l4, l5, l6, l7] L2 St S = ev c 311 2321 [l0, l1, l2, some (aR o), l4, l5, l6, l7] L2 (aR o :: St) S := ev_go i311_2320 rfl
theorem i311_2321 : insAt 311 2321 = some (.iconst 0, 1, (0, 0, 0, 0), 0) := rfl
theorem s311_2321 {c : Nat → List AV → SS → Option Out} {l0 l1 l2 l3 l4 l5 l6 l7 : Option AV} {L2 : List (Nat × AV)} {St : List AV} {S : SS} : ev c 311 2321 [l0, l1, l2, l3, l4, l5, l6, l7] L2 St S = ev c 311 2322 [l0, l1, l2, l3, l4, l5, l6, l7] L2 (aI 0 :: St) S := ev_go i311_2321 rfl
theorem i311_2322 : insAt 311 2322 = some (.laload, 1, (0, 0, 0, 0), 0) := rfl
theorem s311_2322 {c : Nat → List AV → SS → Option Out} {l0 l1 l2 l3 l4 l5 l6 l7 : Option AV} {i : Int32} {o : OId} {L2 : List (Nat × AV)} {St : List AV} {S : SS} : ev c 311 2322 [l0, l1, l2, l3, l4, l5, l6, l7] L2 (aI i :: aR o :: St) S = kJ o i (ev c 311 2323 [l0, l1, l2, l3, l4, l5, l6, l7] L2 (aL (toL (S.2.1 o i.toNatClampNeg)) :: St) S) := ev_laload i311_2322
theorem i311_2323 : insAt 311 2323 = some (.iload 7, 2, (0, 0, 0, 0), 0) := rfl
theorem s311_2323 {c : Nat → List AV → SS → Option Out} {l0 l1 l2 l3 l4 l5 l6 : Option AV} {x : Int32} {L2 : List (Nat × AV)} {St : List AV} {S : SS} : ev c 311 2323 [l0, l1, l2, l3, l4, l5, l6, some (aI x)] L2 St S = ev c 311 2325 [l0, l1, l2, l3, l4, l5, l6, some (aI x)] L2 (aI x :: St) S := ev_go i311_2323 rfl
theorem i311_2325 : insAt 311 2325 = some (.i2l, 1, (0, 0, 0, 0), 0) := rfl
theorem s311_2325 {c : Nat → List AV → SS → Option Out} {l0 l1 l2 l3 l4 l5 l6 l7 : Option AV} {x : Int32} {L2 : List (Nat × AV)} {St : List AV} {S : SS} : ev c 311 2325 [l0, l1, l2, l3, l4, l5, l6, l7] L2 (aI x :: St) S = ev c 311 2326 [l0, l1, l2, l3, l4, l5, l6, l7] L2 (aL x.toInt64 :: St) S := ev_go i311_2325 rfl
theorem i311_2326 : insAt 311 2326 = some (.lcmp, 1, (0, 0, 0, 0), 0) := rfl
theorem s311_2326 {c : Nat → List AV → SS → Option Out} {l0 l1 l2 l3 l4 l5 l6 l7 : Option AV} {x y : Int64} {L2 : List (Nat × AV)} {St : List AV} {S : SS} : ev c 311 2326 [l0, l1, l2, l3, l4, l5, l6, l7] L2 (aL y :: aL x :: St) S = ev c 311 2327 [l0, l1, l2, l3, l4, l5, l6, l7] L2 (aI (if x < y then -1 else if x = y then 0 else 1) :: St) S := ev_go i311_2326 rfl
theorem i311_2327 : insAt 311 2327 = some (.ifCond .eq 5, 3, (0, 0, 0, 0), 0) := rfl
theorem s311_2327 {c : Nat → List AV → SS → Option Out} {l0 l1 l2 l3 l4 l5 l6 l7 : Option AV} {x : Int32} {L2 : List (Nat × AV)} {St : List AV} {S : SS} : ev c 311 2327 [l0, l1, l2, l3, l4, l5, l6, l7] L2 (aI x :: St) S = if x = 0 then ev c 311 2332 [l0, l1, l2, l3, l4, l5, l6, l7] L2 St S else ev c 311 2330 [l0, l1, l2, l3, l4, l5, l6, l7] L2 St S := ev_br i311_2327 rfl
theorem i311_2330 : insAt 311 2330 = some (.iconst 0, 1, (0, 0, 0, 0), 0) := rfl
theorem s311_2330 {c : Nat → List AV → SS → Option Out} {l0 l1 l2 l3 l4 l5 l6 l7 : Option AV} {L2 : List (Nat × AV)} {St : List AV} {S : SS} : ev c 311 2330 [l0, l1, l2, l3, l4, l5, l6, l7] L2 St S = ev c 311 2331 [l0, l1, l2, l3, l4, l5, l6, l7] L2 (aI 0 :: St) S := ev_go i311_2330 rfl
theorem i311_2331 : insAt 311 2331 = some (.ireturn, 1, (0, 0, 0, 0), 0) := rfl
theorem s311_2331 {c : Nat → List AV → SS → Option Out} {l0 l1 l2 l3 l4 l5 l6 l7 : Option AV} {x : Int32} {L2 : List (Nat × AV)} {S : SS} : ev c 311 2331 [l0, l1, l2, l3, l4, l5, l6, l7] L2 [aI x] S = if x = 0 ∨ x = 1 then some (.inl (some (aI x)), S) else none := ev_rt i311_2331 rfl
theorem i311_2332 : insAt 311 2332 = some (.goto 467, 3, (0, 0, 0, 0), 0) := rfl
theorem s311_2332 {c : Nat → List AV → SS → Option Out} {l0 l1 l2 l3 l4 l5 l6 l7 : Option AV} {L2 : List (Nat × AV)} {St : List AV} {S : SS} : ev c 311 2332 [l0, l1, l2, l3, l4, l5, l6, l7] L2 St S = ev c 311 2799 [l0, l1, l2, l3, l4, l5, l6, l7] L2 St S := ev_go i311_2332 rfl
theorem i311_2335 : insAt 311 2335 = some (.aload_n 1, 1, (0, 0, 0, 0), 0) := rfl
theorem s311_2335 {c : Nat → List AV → SS → Option Out} {l0 l2 l3 l4 l5 l6 l7 : Option AV} {o : OId} {L2 : List (Nat × AV)} {St : List AV} {S : SS} : ev c 311 2335 [l0, some (aR o), l2, l3, l4, l5, l6, l7] L2 St S = ev c 311 2336 [l0, some (aR o), l2, l3, l4, l5, l6, l7] L2 (aR o :: St) S := ev_go i311_2335 rfl
theorem i311_2336 : insAt 311 2336 = some (.aload_n 3, 1, (0, 0, 0, 0), 0) := rfl
theorem s311_2336 {c : Nat → List AV → SS → Option Out} {l0 l1 l2 l4 l5 l6 l7 : Option AV} {o : OId} {L2 : List (Nat × AV)} {St : List AV} {S : SS} : ev c 311 2336 [l0, l1, l2, some (aR o), l4, l5, l6, l7] L2 St S = ev c 311 2337 [l0, l1, l2, some (aR o), l4, l5, l6, l7] L2 (aR o :: St) S := ev_go i311_2336 rfl
theorem i311_2337 : insAt 311 2337 = some (.invokestatic 280, 3, (161, 2, 0, 0), 518) := rfl
theorem s311_2337 {c : Nat → List AV → SS → Option Out} {l0 l1 l2 l3 l4 l5 l6 l7 : Option AV} {a0 : OId} {a1 : OId} {L2 : List (Nat × AV)} {S : SS} : ev c 311 2337 [l0, l1, l2, l3, l4, l5, l6, l7] L2 [aR a1, aR a0] S = ck (c 161 [aR a0, aR a1] S) (fun v S' => ev c 311 2340 [l0, l1, l2, l3, l4, l5, l6, l7] L2 (v.toList ++ []) S') := ev_call i311_2337 rfl
theorem i311_2340 : insAt 311 2340 = some (.istore 6, 2, (0, 0, 0, 0), 0) := rfl
theorem s311_2340 {c : Nat → List AV → SS → Option Out} {l0 l1 l2 l3 l4 l5 l6 l7 : Option AV} {x : Int32} {L2 : List (Nat × AV)} {St : List AV} {S : SS} : ev c 311 2340 [l0, l1, l2, l3, l4, l5, l6, l7] L2 (aI x :: St) S = ev c 311 2342 [l0, l1, l2, l3, l4, l5, some (aI x), l7] (kil L2 6) St S := ev_go i311_2340 rfl
theorem i311_2342 : insAt 311 2342 = some (.aload_n 2, 1, (0, 0, 0, 0), 0) := rfl
theorem s311_2342 {c : Nat → List AV → SS → Option Out} {l0 l1 l3 l4 l5 l6 l7 : Option AV} {o : OId} {L2 : List (Nat × AV)} {St : List AV} {S : SS} : ev c 311 2342 [l0, l1, some (aR o), l3, l4, l5, l6, l7] L2 St S = ev c 311 2343 [l0, l1, some (aR o), l3, l4, l5, l6, l7] L2 (aR o :: St) S := ev_go i311_2342 rfl
theorem i311_2343 : insAt 311 2343 = some (.invokevirtual 283, 3, (294, 0, 2, 12), 519) := rfl
theorem s311_2343 {c : Nat → List AV → SS → Option Out} {l0 l1 l2 l3 l4 l5 l6 l7 : Option AV} {j t : Nat} {L2 : List (Nat × AV)} {S : SS} : ev c 311 2343 [l0, l1, l2, l3, l4, l5, l6, l7] L2 [aR (12, j, t)] S = ck (c 294 [aR (12, j, t)] S) (fun v S' => ev c 311 2346 [l0, l1, l2, l3, l4, l5, l6, l7] L2 (v.toList ++ []) S') := ev_call i311_2343 rfl
theorem i311_2346 : insAt 311 2346 = some (.istore 7, 2, (0, 0, 0, 0), 0) := rfl
theorem s311_2346 {c : Nat → List AV → SS → Option Out} {l0 l1 l2 l3 l4 l5 l6 l7 : Option AV} {x : Int32} {L2 : List (Nat × AV)} {St : List AV} {S : SS} : ev c 311 2346 [l0, l1, l2, l3, l4, l5, l6, l7] L2 (aI x :: St) S = ev c 311 2348 [l0, l1, l2, l3, l4, l5, l6, some (aI x)] (kil L2 7) St S := ev_go i311_2346 rfl
theorem i311_2348 : insAt 311 2348 = some (.aload_n 2, 1, (0, 0, 0, 0), 0) := rfl
theorem s311_2348 {c : Nat → List AV → SS → Option Out} {l0 l1 l3 l4 l5 l6 l7 : Option AV} {o : OId} {L2 : List (Nat × AV)} {St : List AV} {S : SS} : ev c 311 2348 [l0, l1, some (aR o), l3, l4, l5, l6, l7] L2 St S = ev c 311 2349 [l0, l1, some (aR o), l3, l4, l5, l6, l7] L2 (aR o :: St) S := ev_go i311_2348 rfl
theorem i311_2349 : insAt 311 2349 = some (.invokevirtual 149, 3, (215, 0, 2, 12), 441) := rfl
theorem s311_2349 {c : Nat → List AV → SS → Option Out} {l0 l1 l2 l3 l4 l5 l6 l7 : Option AV} {j t : Nat} {L2 : List (Nat × AV)} {S : SS} : ev c 311 2349 [l0, l1, l2, l3, l4, l5, l6, l7] L2 [aR (12, j, t)] S = ck (c 215 [aR (12, j, t)] S) (fun v S' => ev c 311 2352 [l0, l1, l2, l3, l4, l5, l6, l7] L2 (v.toList ++ []) S') := ev_call i311_2349 rfl
theorem i311_2352 : insAt 311 2352 = some (.iload 6, 2, (0, 0, 0, 0), 0) := rfl
theorem s311_2352 {c : Nat → List AV → SS → Option Out} {l0 l1 l2 l3 l4 l5 l7 : Option AV} {x : Int32} {L2 : List (Nat × AV)} {St : List AV} {S : SS} : ev c 311 2352 [l0, l1, l2, l3, l4, l5, some (aI x), l7] L2 St S = ev c 311 2354 [l0, l1, l2, l3, l4, l5, some (aI x), l7] L2 (aI x :: St) S := ev_go i311_2352 rfl
theorem i311_2354 : insAt 311 2354 = some (.if_icmp .eq 5, 3, (0, 0, 0, 0), 0) := rfl
theorem s311_2354 {c : Nat → List AV → SS → Option Out} {l0 l1 l2 l3 l4 l5 l6 l7 : Option AV} {x y : Int32} {L2 : List (Nat × AV)} {St : List AV} {S : SS} : ev c 311 2354 [l0, l1, l2, l3, l4, l5, l6, l7] L2 (aI y :: aI x :: St) S = if x = y then ev c 311 2359 [l0, l1, l2, l3, l4, l5, l6, l7] L2 St S else ev c 311 2357 [l0, l1, l2, l3, l4, l5, l6, l7] L2 St S := ev_br i311_2354 rfl
theorem i311_2357 : insAt 311 2357 = some (.iconst 0, 1, (0, 0, 0, 0), 0) := rfl
theorem s311_2357 {c : Nat → List AV → SS → Option Out} {l0 l1 l2 l3 l4 l5 l6 l7 : Option AV} {L2 : List (Nat × AV)} {St : List AV} {S : SS} : ev c 311 2357 [l0, l1, l2, l3, l4, l5, l6, l7] L2 St S = ev c 311 2358 [l0, l1, l2, l3, l4, l5, l6, l7] L2 (aI 0 :: St) S := ev_go i311_2357 rfl
theorem i311_2358 : insAt 311 2358 = some (.ireturn, 1, (0, 0, 0, 0), 0) := rfl
theorem s311_2358 {c : Nat → List AV → SS → Option Out} {l0 l1 l2 l3 l4 l5 l6 l7 : Option AV} {x : Int32} {L2 : List (Nat × AV)} {S : SS} : ev c 311 2358 [l0, l1, l2, l3, l4, l5, l6, l7] L2 [aI x] S = if x = 0 ∨ x = 1 then some (.inl (some (aI x)), S) else none := ev_rt i311_2358 rfl
theorem i311_2359 : insAt 311 2359 = some (.iload 6, 2, (0, 0, 0, 0), 0) := rfl
theorem s311_2359 {c : Nat → List AV → SS → Option Out} {l0 l1 l2 l3 l4 l5 l7 : Option AV} {x : Int32} {L2 : List (Nat × AV)} {St : List AV} {S : SS} : ev c 311 2359 [l0, l1, l2, l3, l4, l5, some (aI x), l7] L2 St S = ev c 311 2361 [l0, l1, l2, l3, l4, l5, some (aI x), l7] L2 (aI x :: St) S := ev_go i311_2359 rfl
theorem i311_2361 : insAt 311 2361 = some (.ifCond .ne 15, 3, (0, 0, 0, 0), 0) := rfl
theorem s311_2361 {c : Nat → List AV → SS → Option Out} {l0 l1 l2 l3 l4 l5 l6 l7 : Option AV} {x : Int32} {L2 : List (Nat × AV)} {St : List AV} {S : SS} : ev c 311 2361 [l0, l1, l2, l3, l4, l5, l6, l7] L2 (aI x :: St) S = if x = 0 then ev c 311 2364 [l0, l1, l2, l3, l4, l5, l6, l7] L2 St S else ev c 311 2376 [l0, l1, l2, l3, l4, l5, l6, l7] L2 St S := (ev_br i311_2361 rfl).trans (ite_not _ _ _)
theorem i311_2364 : insAt 311 2364 = some (.aload_n 3, 1, (0, 0, 0, 0), 0) := rfl
theorem s311_2364 {c : Nat → List AV → SS → Option Out} {l0 l1 l2 l4 l5 l6 l7 : Option AV} {o : OId} {L2 : List (Nat × AV)} {St : List AV} {S : SS} : ev c 311 2364 [l0, l1, l2, some (aR o), l4, l5, l6, l7] L2 St S = ev c 311 2365 [l0, l1, l2, some (aR o), l4, l5, l6, l7] L2 (aR o :: St) S := ev_go i311_2364 rfl
theorem i311_2365 : insAt 311 2365 = some (.iconst 0, 1, (0, 0, 0, 0), 0) := rfl
theorem s311_2365 {c : Nat → List AV → SS → Option Out} {l0 l1 l2 l3 l4 l5 l6 l7 : Option AV} {L2 : List (Nat × AV)} {St : List AV} {S : SS} : ev c 311 2365 [l0, l1, l2, l3, l4, l5, l6, l7] L2 St S = ev c 311 2366 [l0, l1, l2, l3, l4, l5, l6, l7] L2 (aI 0 :: St) S := ev_go i311_2365 rfl
theorem i311_2366 : insAt 311 2366 = some (.laload, 1, (0, 0, 0, 0), 0) := rfl
theorem s311_2366 {c : Nat → List AV → SS → Option Out} {l0 l1 l2 l3 l4 l5 l6 l7 : Option AV} {i : Int32} {o : OId} {L2 : List (Nat × AV)} {St : List AV} {S : SS} : ev c 311 2366 [l0, l1, l2, l3, l4, l5, l6, l7] L2 (aI i :: aR o :: St) S = kJ o i (ev c 311 2367 [l0, l1, l2, l3, l4, l5, l6, l7] L2 (aL (toL (S.2.1 o i.toNatClampNeg)) :: St) S) := ev_laload i311_2366
theorem i311_2367 : insAt 311 2367 = some (.iload 7, 2, (0, 0, 0, 0), 0) := rfl
theorem s311_2367 {c : Nat → List AV → SS → Option Out} {l0 l1 l2 l3 l4 l5 l6 : Option AV} {x : Int32} {L2 : List (Nat × AV)} {St : List AV} {S : SS} : ev c 311 2367 [l0, l1, l2, l3, l4, l5, l6, some (aI x)] L2 St S = ev c 311 2369 [l0, l1, l2, l3, l4, l5, l6, some (aI x)] L2 (aI x :: St) S := ev_go i311_2367 rfl
theorem i311_2369 : insAt 311 2369 = some (.i2l, 1, (0, 0, 0, 0), 0) := rfl
theorem s311_2369 {c : Nat → List AV → SS → Option Out} {l0 l1 l2 l3 l4 l5 l6 l7 : Option AV} {x : Int32} {L2 : List (Nat × AV)} {St : List AV} {S : SS} : ev c 311 2369 [l0, l1, l2, l3, l4, l5, l6, l7] L2 (aI x :: St) S = ev c 311 2370 [l0, l1, l2, l3, l4, l5, l6, l7] L2 (aL x.toInt64 :: St) S := ev_go i311_2369 rfl
theorem i311_2370 : insAt 311 2370 = some (.lcmp, 1, (0, 0, 0, 0), 0) := rfl
theorem s311_2370 {c : Nat → List AV → SS → Option Out} {l0 l1 l2 l3 l4 l5 l6 l7 : Option AV} {x y : Int64} {L2 : List (Nat × AV)} {St : List AV} {S : SS} : ev c 311 2370 [l0, l1, l2, l3, l4, l5, l6, l7] L2 (aL y :: aL x :: St) S = ev c 311 2371 [l0, l1, l2, l3, l4, l5, l6, l7] L2 (aI (if x < y then -1 else if x = y then 0 else 1) :: St) S := ev_go i311_2370 rfl
theorem i311_2371 : insAt 311 2371 = some (.ifCond .eq 5, 3, (0, 0, 0, 0), 0) := rfl
theorem s311_2371 {c : Nat → List AV → SS → Option Out} {l0 l1 l2 l3 l4 l5 l6 l7 : Option AV} {x : Int32} {L2 : List (Nat × AV)} {St : List AV} {S : SS} : ev c 311 2371 [l0, l1, l2, l3, l4, l5, l6, l7] L2 (aI x :: St) S = if x = 0 then ev c 311 2376 [l0, l1, l2, l3, l4, l5, l6, l7] L2 St S else ev c 311 2374 [l0, l1, l2, l3, l4, l5, l6, l7] L2 St S := ev_br i311_2371 rfl
theorem i311_2374 : insAt 311 2374 = some (.iconst 0, 1, (0, 0, 0, 0), 0) := rfl
theorem s311_2374 {c : Nat → List AV → SS → Option Out} {l0 l1 l2 l3 l4 l5 l6 l7 : Option AV} {L2 : List (Nat × AV)} {St : List AV} {S : SS} : ev c 311 2374 [l0, l1, l2, l3, l4, l5, l6, l7] L2 St S = ev c 311 2375 [l0, l1, l2, l3, l4, l5, l6, l7] L2 (aI 0 :: St) S := ev_go i311_2374 rfl
theorem i311_2375 : insAt 311 2375 = some (.ireturn, 1, (0, 0, 0, 0), 0) := rfl
theorem s311_2375 {c : Nat → List AV → SS → Option Out} {l0 l1 l2 l3 l4 l5 l6 l7 : Option AV} {x : Int32} {L2 : List (Nat × AV)} {S : SS} : ev c 311 2375 [l0, l1, l2, l3, l4, l5, l6, l7] L2 [aI x] S = if x = 0 ∨ x = 1 then some (.inl (some (aI x)), S) else none := ev_rt i311_2375 rfl
theorem i311_2376 : insAt 311 2376 = some (.goto 423, 3, (0, 0, 0, 0), 0) := rfl
theorem s311_2376 {c : Nat → List AV → SS → Option Out} {l0 l1 l2 l3 l4 l5 l6 l7 : Option AV} {L2 : List (Nat × AV)} {St : List AV} {S : SS} : ev c 311 2376 [l0, l1, l2, l3, l4, l5, l6, l7] L2 St S = ev c 311 2799 [l0, l1, l2, l3, l4, l5, l6, l7] L2 St S := ev_go i311_2376 rfl
theorem i311_2379 : insAt 311 2379 = some (.aload_n 1, 1, (0, 0, 0, 0), 0) := rfl
theorem s311_2379 {c : Nat → List AV → SS → Option Out} {l0 l2 l3 l4 l5 l6 l7 : Option AV} {o : OId} {L2 : List (Nat × AV)} {St : List AV} {S : SS} : ev c 311 2379 [l0, some (aR o), l2, l3, l4, l5, l6, l7] L2 St S = ev c 311 2380 [l0, some (aR o), l2, l3, l4, l5, l6, l7] L2 (aR o :: St) S := ev_go i311_2379 rfl
theorem i311_2380 : insAt 311 2380 = some (.aload_n 0, 1, (0, 0, 0, 0), 0) := rfl
theorem s311_2380 {c : Nat → List AV → SS → Option Out} {l1 l2 l3 l4 l5 l6 l7 : Option AV} {o : OId} {L2 : List (Nat × AV)} {St : List AV} {S : SS} : ev c 311 2380 [some (aR o), l1, l2, l3, l4, l5, l6, l7] L2 St S = ev c 311 2381 [some (aR o), l1, l2, l3, l4, l5, l6, l7] L2 (aR o :: St) S := ev_go i311_2380 rfl
theorem i311_2381 : insAt 311 2381 = some (.iload 5, 2, (0, 0, 0, 0), 0) := rfl
theorem s311_2381 {c : Nat → List AV → SS → Option Out} {l0 l1 l2 l3 l4 l6 l7 : Option AV} {x : Int32} {L2 : List (Nat × AV)} {St : List AV} {S : SS} : ev c 311 2381 [l0, l1, l2, l3, l4, some (aI x), l6, l7] L2 St S = ev c 311 2383 [l0, l1, l2, l3, l4, some (aI x), l6, l7] L2 (aI x :: St) S := ev_go i311_2381 rfl
theorem i311_2383 : insAt 311 2383 = some (.iconst 1, 1, (0, 0, 0, 0), 0) := rfl
theorem s311_2383 {c : Nat → List AV → SS → Option Out} {l0 l1 l2 l3 l4 l5 l6 l7 : Option AV} {L2 : List (Nat × AV)} {St : List AV} {S : SS} : ev c 311 2383 [l0, l1, l2, l3, l4, l5, l6, l7] L2 St S = ev c 311 2384 [l0, l1, l2, l3, l4, l5, l6, l7] L2 (aI 1 :: St) S := ev_go i311_2383 rfl
theorem i311_2384 : insAt 311 2384 = some (.iadd, 1, (0, 0, 0, 0), 0) := rfl
theorem s311_2384 {c : Nat → List AV → SS → Option Out} {l0 l1 l2 l3 l4 l5 l6 l7 : Option AV} {x y : Int32} {L2 : List (Nat × AV)} {St : List AV} {S : SS} : ev c 311 2384 [l0, l1, l2, l3, l4, l5, l6, l7] L2 (aI y :: aI x :: St) S = ev c 311 2385 [l0, l1, l2, l3, l4, l5, l6, l7] L2 (aI (x + y) :: St) S := ev_go i311_2384 rfl
theorem i311_2385 : insAt 311 2385 = some (.iaload, 1, (0, 0, 0, 0), 0) := rfl
theorem s311_2385 {c : Nat → List AV → SS → Option Out} {l0 l1 l2 l3 l4 l5 l6 l7 : Option AV} {i : Int32} {o : OId} {L2 : List (Nat × AV)} {St : List AV} {S : SS} : ev c 311 2385 [l0, l1, l2, l3, l4, l5, l6, l7] L2 (aI i :: aR o :: St) S = kI o i (ev c 311 2386 [l0, l1, l2, l3, l4, l5, l6, l7] L2 (aI (agI S o i.toNatClampNeg) :: St) S) := ev_iaload i311_2385
theorem i311_2386 : insAt 311 2386 = some (.aload_n 3, 1, (0, 0, 0, 0), 0) := rfl
theorem s311_2386 {c : Nat → List AV → SS → Option Out} {l0 l1 l2 l4 l5 l6 l7 : Option AV} {o : OId} {L2 : List (Nat × AV)} {St : List AV} {S : SS} : ev c 311 2386 [l0, l1, l2, some (aR o), l4, l5, l6, l7] L2 St S = ev c 311 2387 [l0, l1, l2, some (aR o), l4, l5, l6, l7] L2 (aR o :: St) S := ev_go i311_2386 rfl
theorem i311_2387 : insAt 311 2387 = some (.invokestatic 284, 3, (163, 3, 0, 0), 520) := rfl
theorem s311_2387 {c : Nat → List AV → SS → Option Out} {l0 l1 l2 l3 l4 l5 l6 l7 : Option AV} {a0 : OId} {a1 : Int32} {a2 : OId} {L2 : List (Nat × AV)} {S : SS} : ev c 311 2387 [l0, l1, l2, l3, l4, l5, l6, l7] L2 [aR a2, aI a1, aR a0] S = ck (c 163 [aR a0, aI a1, aR a2] S) (fun v S' => ev c 311 2390 [l0, l1, l2, l3, l4, l5, l6, l7] L2 (v.toList ++ []) S') := ev_call i311_2387 rfl
theorem i311_2390 : insAt 311 2390 = some (.istore 6, 2, (0, 0, 0, 0), 0) := rfl
theorem s311_2390 {c : Nat → List AV → SS → Option Out} {l0 l1 l2 l3 l4 l5 l6 l7 : Option AV} {x : Int32} {L2 : List (Nat × AV)} {St : List AV} {S : SS} : ev c 311 2390 [l0, l1, l2, l3, l4, l5, l6, l7] L2 (aI x :: St) S = ev c 311 2392 [l0, l1, l2, l3, l4, l5, some (aI x), l7] (kil L2 6) St S := ev_go i311_2390 rfl
theorem i311_2392 : insAt 311 2392 = some (.aload_n 2, 1, (0, 0, 0, 0), 0) := rfl
theorem s311_2392 {c : Nat → List AV → SS → Option Out} {l0 l1 l3 l4 l5 l6 l7 : Option AV} {o : OId} {L2 : List (Nat × AV)} {St : List AV} {S : SS} : ev c 311 2392 [l0, l1, some (aR o), l3, l4, l5, l6, l7] L2 St S = ev c 311 2393 [l0, l1, some (aR o), l3, l4, l5, l6, l7] L2 (aR o :: St) S := ev_go i311_2392 rfl
theorem i311_2393 : insAt 311 2393 = some (.aload_n 0, 1, (0, 0, 0, 0), 0) := rfl
theorem s311_2393 {c : Nat → List AV → SS → Option Out} {l1 l2 l3 l4 l5 l6 l7 : Option AV} {o : OId} {L2 : List (Nat × AV)} {St : List AV} {S : SS} : ev c 311 2393 [some (aR o), l1, l2, l3, l4, l5, l6, l7] L2 St S = ev c 311 2394 [some (aR o), l1, l2, l3, l4, l5, l6, l7] L2 (aR o :: St) S := ev_go i311_2393 rfl
theorem i311_2394 : insAt 311 2394 = some (.iload 5, 2, (0, 0, 0, 0), 0) := rfl
theorem s311_2394 {c : Nat → List AV → SS → Option Out} {l0 l1 l2 l3 l4 l6 l7 : Option AV} {x : Int32} {L2 : List (Nat × AV)} {St : List AV} {S : SS} : ev c 311 2394 [l0, l1, l2, l3, l4, some (aI x), l6, l7] L2 St S = ev c 311 2396 [l0, l1, l2, l3, l4, some (aI x), l6, l7] L2 (aI x :: St) S := ev_go i311_2394 rfl
theorem i311_2396 : insAt 311 2396 = some (.iconst 1, 1, (0, 0, 0, 0), 0) := rfl
theorem s311_2396 {c : Nat → List AV → SS → Option Out} {l0 l1 l2 l3 l4 l5 l6 l7 : Option AV} {L2 : List (Nat × AV)} {St : List AV} {S : SS} : ev c 311 2396 [l0, l1, l2, l3, l4, l5, l6, l7] L2 St S = ev c 311 2397 [l0, l1, l2, l3, l4, l5, l6, l7] L2 (aI 1 :: St) S := ev_go i311_2396 rfl
theorem i311_2397 : insAt 311 2397 = some (.iadd, 1, (0, 0, 0, 0), 0) := rfl
theorem s311_2397 {c : Nat → List AV → SS → Option Out} {l0 l1 l2 l3 l4 l5 l6 l7 : Option AV} {x y : Int32} {L2 : List (Nat × AV)} {St : List AV} {S : SS} : ev c 311 2397 [l0, l1, l2, l3, l4, l5, l6, l7] L2 (aI y :: aI x :: St) S = ev c 311 2398 [l0, l1, l2, l3, l4, l5, l6, l7] L2 (aI (x + y) :: St) S := ev_go i311_2397 rfl
theorem i311_2398 : insAt 311 2398 = some (.iaload, 1, (0, 0, 0, 0), 0) := rfl
theorem s311_2398 {c : Nat → List AV → SS → Option Out} {l0 l1 l2 l3 l4 l5 l6 l7 : Option AV} {i : Int32} {o : OId} {L2 : List (Nat × AV)} {St : List AV} {S : SS} : ev c 311 2398 [l0, l1, l2, l3, l4, l5, l6, l7] L2 (aI i :: aR o :: St) S = kI o i (ev c 311 2399 [l0, l1, l2, l3, l4, l5, l6, l7] L2 (aI (agI S o i.toNatClampNeg) :: St) S) := ev_iaload i311_2398
theorem i311_2399 : insAt 311 2399 = some (.invokevirtual 286, 3, (295, 1, 2, 12), 521) := rfl
theorem s311_2399 {c : Nat → List AV → SS → Option Out} {l0 l1 l2 l3 l4 l5 l6 l7 : Option AV} {a0 : Int32} {j t : Nat} {L2 : List (Nat × AV)} {S : SS} : ev c 311 2399 [l0, l1, l2, l3, l4, l5, l6, l7] L2 [aI a0, aR (12, j, t)] S = ck (c 295 [aR (12, j, t), aI a0] S) (fun v S' => ev c 311 2402 [l0, l1, l2, l3, l4, l5, l6, l7] L2 (v.toList ++ []) S') := ev_call i311_2399 rfl
theorem i311_2402 : insAt 311 2402 = some (.istore 7, 2, (0, 0, 0, 0), 0) := rfl
theorem s311_2402 {c : Nat → List AV → SS → Option Out} {l0 l1 l2 l3 l4 l5 l6 l7 : Option AV} {x : Int32} {L2 : List (Nat × AV)} {St : List AV} {S : SS} : ev c 311 2402 [l0, l1, l2, l3, l4, l5, l6, l7] L2 (aI x :: St) S = ev c 311 2404 [l0, l1, l2, l3, l4, l5, l6, some (aI x)] (kil L2 7) St S := ev_go i311_2402 rfl
theorem i311_2404 : insAt 311 2404 = some (.aload_n 2, 1, (0, 0, 0, 0), 0) := rfl
theorem s311_2404 {c : Nat → List AV → SS → Option Out} {l0 l1 l3 l4 l5 l6 l7 : Option AV} {o : OId} {L2 : List (Nat × AV)} {St : List AV} {S : SS} : ev c 311 2404 [l0, l1, some (aR o), l3, l4, l5, l6, l7] L2 St S = ev c 311 2405 [l0, l1, some (aR o), l3, l4, l5, l6, l7] L2 (aR o :: St) S := ev_go i311_2404 rfl
theorem i311_2405 : insAt 311 2405 = some (.invokevirtual 149, 3, (215, 0, 2, 12), 441) := rfl
theorem s311_2405 {c : Nat → List AV → SS → Option Out} {l0 l1 l2 l3 l4 l5 l6 l7 : Option AV} {j t : Nat} {L2 : List (Nat × AV)} {S : SS} : ev c 311 2405 [l0, l1, l2, l3, l4, l5, l6, l7] L2 [aR (12, j, t)] S = ck (c 215 [aR (12, j, t)] S) (fun v S' => ev c 311 2408 [l0, l1, l2, l3, l4, l5, l6, l7] L2 (v.toList ++ []) S') := ev_call i311_2405 rfl
theorem i311_2408 : insAt 311 2408 = some (.iload 6, 2, (0, 0, 0, 0), 0) := rfl
theorem s311_2408 {c : Nat → List AV → SS → Option Out} {l0 l1 l2 l3 l4 l5 l7 : Option AV} {x : Int32} {L2 : List (Nat × AV)} {St : List AV} {S : SS} : ev c 311 2408 [l0, l1, l2, l3, l4, l5, some (aI x), l7] L2 St S = ev c 311 2410 [l0, l1, l2, l3, l4, l5, some (aI x), l7] L2 (aI x :: St) S := ev_go i311_2408 rfl
theorem i311_2410 : insAt 311 2410 = some (.if_icmp .eq 5, 3, (0, 0, 0, 0), 0) := rfl
theorem s311_2410 {c : Nat → List AV → SS → Option Out} {l0 l1 l2 l3 l4 l5 l6 l7 : Option AV} {x y : Int32} {L2 : List (Nat × AV)} {St : List AV} {S : SS} : ev c 311 2410 [l0, l1, l2, l3, l4, l5, l6, l7] L2 (aI y :: aI x :: St) S = if x = y then ev c 311 2415 [l0, l1, l2, l3, l4, l5, l6, l7] L2 St S else ev c 311 2413 [l0, l1, l2, l3, l4, l5, l6, l7] L2 St S := ev_br i311_2410 rfl
theorem i311_2413 : insAt 311 2413 = some (.iconst 0, 1, (0, 0, 0, 0), 0) := rfl
theorem s311_2413 {c : Nat → List AV → SS → Option Out} {l0 l1 l2 l3 l4 l5 l6 l7 : Option AV} {L2 : List (Nat × AV)} {St : List AV} {S : SS} : ev c 311 2413 [l0, l1, l2, l3, l4, l5, l6, l7] L2 St S = ev c 311 2414 [l0, l1, l2, l3, l4, l5, l6, l7] L2 (aI 0 :: St) S := ev_go i311_2413 rfl
theorem i311_2414 : insAt 311 2414 = some (.ireturn, 1, (0, 0, 0, 0), 0) := rfl
theorem s311_2414 {c : Nat → List AV → SS → Option Out} {l0 l1 l2 l3 l4 l5 l6 l7 : Option AV} {x : Int32} {L2 : List (Nat × AV)} {S : SS} : ev c 311 2414 [l0, l1, l2, l3, l4, l5, l6, l7] L2 [aI x] S = if x = 0 ∨ x = 1 then some (.inl (some (aI x)), S) else none := ev_rt i311_2414 rfl
theorem i311_2415 : insAt 311 2415 = some (.iload 6, 2, (0, 0, 0, 0), 0) := rfl
theorem s311_2415 {c : Nat → List AV → SS → Option Out} {l0 l1 l2 l3 l4 l5 l7 : Option AV} {x : Int32} {L2 : List (Nat × AV)} {St : List AV} {S : SS} : ev c 311 2415 [l0, l1, l2, l3, l4, l5, some (aI x), l7] L2 St S = ev c 311 2417 [l0, l1, l2, l3, l4, l5, some (aI x), l7] L2 (aI x :: St) S := ev_go i311_2415 rfl
theorem i311_2417 : insAt 311 2417 = some (.ifCond .ne 15, 3, (0, 0, 0, 0), 0) := rfl
theorem s311_2417 {c : Nat → List AV → SS → Option Out} {l0 l1 l2 l3 l4 l5 l6 l7 : Option AV} {x : Int32} {L2 : List (Nat × AV)} {St : List AV} {S : SS} : ev c 311 2417 [l0, l1, l2, l3, l4, l5, l6, l7] L2 (aI x :: St) S = if x = 0 then ev c 311 2420 [l0, l1, l2, l3, l4, l5, l6, l7] L2 St S else ev c 311 2432 [l0, l1, l2, l3, l4, l5, l6, l7] L2 St S := (ev_br i311_2417 rfl).trans (ite_not _ _ _)
theorem i311_2420 : insAt 311 2420 = some (.aload_n 3, 1, (0, 0, 0, 0), 0) := rfl
theorem s311_2420 {c : Nat → List AV → SS → Option Out} {l0 l1 l2 l4 l5 l6 l7 : Option AV} {o : OId} {L2 : List (Nat × AV)} {St : List AV} {S : SS} : ev c 311 2420 [l0, l1, l2, some (aR o), l4, l5, l6, l7] L2 St S = ev c 311 2421 [l0, l1, l2, some (aR o), l4, l5, l6, l7] L2 (aR o :: St) S := ev_go i311_2420 rfl
theorem i311_2421 : insAt 311 2421 = some (.iconst 0, 1, (0, 0, 0, 0), 0) := rfl
theorem s311_2421 {c : Nat → List AV → SS → Option Out} {l0 l1 l2 l3 l4 l5 l6 l7 : Option AV} {L2 : List (Nat × AV)} {St : List AV} {S : SS} : ev c 311 2421 [l0, l1, l2, l3, l4, l5, l6, l7] L2 St S = ev c 311 2422 [l0, l1, l2, l3, l4, l5, l6, l7] L2 (aI 0 :: St) S := ev_go i311_2421 rfl
theorem i311_2422 : insAt 311 2422 = some (.laload, 1, (0, 0, 0, 0), 0) := rfl
theorem s311_2422 {c : Nat → List AV → SS → Option Out} {l0 l1 l2 l3 l4 l5 l6 l7 : Option AV} {i : Int32} {o : OId} {L2 : List (Nat × AV)} {St : List AV} {S : SS} : ev c 311 2422 [l0, l1, l2, l3, l4, l5, l6, l7] L2 (aI i :: aR o :: St) S = kJ o i (ev c 311 2423 [l0, l1, l2, l3, l4, l5, l6, l7] L2 (aL (toL (S.2.1 o i.toNatClampNeg)) :: St) S) := ev_laload i311_2422
theorem i311_2423 : insAt 311 2423 = some (.iload 7, 2, (0, 0, 0, 0), 0) := rfl
theorem s311_2423 {c : Nat → List AV → SS → Option Out} {l0 l1 l2 l3 l4 l5 l6 : Option AV} {x : Int32} {L2 : List (Nat × AV)} {St : List AV} {S : SS} : ev c 311 2423 [l0, l1, l2, l3, l4, l5, l6, some (aI x)] L2 St S = ev c 311 2425 [l0, l1, l2, l3, l4, l5, l6, some (aI x)] L2 (aI x :: St) S := ev_go i311_2423 rfl
theorem i311_2425 : insAt 311 2425 = some (.i2l, 1, (0, 0, 0, 0), 0) := rfl
theorem s311_2425 {c : Nat → List AV → SS → Option Out} {l0 l1 l2 l3 l4 l5 l6 l7 : Option AV} {x : Int32} {L2 : List (Nat × AV)} {St : List AV} {S : SS} : ev c 311 2425 [l0, l1, l2, l3, l4, l5, l6, l7] L2 (aI x :: St) S = ev c 311 2426 [l0, l1, l2, l3, l4, l5, l6, l7] L2 (aL x.toInt64 :: St) S := ev_go i311_2425 rfl
theorem i311_2426 : insAt 311 2426 = some (.lcmp, 1, (0, 0, 0, 0), 0) := rfl
theorem s311_2426 {c : Nat → List AV → SS → Option Out} {l0 l1 l2 l3 l4 l5 l6 l7 : Option AV} {x y : Int64} {L2 : List (Nat × AV)} {St : List AV} {S : SS} : ev c 311 2426 [l0, l1, l2, l3, l4, l5, l6, l7] L2 (aL y :: aL x :: St) S = ev c 311 2427 [l0, l1, l2, l3, l4, l5, l6, l7] L2 (aI (if x < y then -1 else if x = y then 0 else 1) :: St) S := ev_go i311_2426 rfl
theorem i311_2427 : insAt 311 2427 = some (.ifCond .eq 5, 3, (0, 0, 0, 0), 0) := rfl
theorem s311_2427 {c : Nat → List AV → SS → Option Out} {l0 l1 l2 l3 l4 l5 l6 l7 : Option AV} {x : Int32} {L2 : List (Nat × AV)} {St : List AV} {S : SS} : ev c 311 2427 [l0, l1, l2, l3, l4, l5, l6, l7] L2 (aI x :: St) S = if x = 0 then ev c 311 2432 [l0, l1, l2, l3, l4, l5, l6, l7] L2 St S else ev c 311 2430 [l0, l1, l2, l3, l4, l5, l6, l7] L2 St S := ev_br i311_2427 rfl
theorem i311_2430 : insAt 311 2430 = some (.iconst 0, 1, (0, 0, 0, 0), 0) := rfl
theorem s311_2430 {c : Nat → List AV → SS → Option Out} {l0 l1 l2 l3 l4 l5 l6 l7 : Option AV} {L2 : List (Nat × AV)} {St : List AV} {S : SS} : ev c 311 2430 [l0, l1, l2, l3, l4, l5, l6, l7] L2 St S = ev c 311 2431 [l0, l1, l2, l3, l4, l5, l6, l7] L2 (aI 0 :: St) S := ev_go i311_2430 rfl
theorem i311_2431 : insAt 311 2431 = some (.ireturn, 1, (0, 0, 0, 0), 0) := rfl
theorem s311_2431 {c : Nat → List AV → SS → Option Out} {l0 l1 l2 l3 l4 l5 l6 l7 : Option AV} {x : Int32} {L2 : List (Nat × AV)} {S : SS} : ev c 311 2431 [l0, l1, l2, l3, l4, l5, l6, l7] L2 [aI x] S = if x = 0 ∨ x = 1 then some (.inl (some (aI x)), S) else none := ev_rt i311_2431 rfl
theorem i311_2432 : insAt 311 2432 = some (.goto 367, 3, (0, 0, 0, 0), 0) := rfl
theorem s311_2432 {c : Nat → List AV → SS → Option Out} {l0 l1 l2 l3 l4 l5 l6 l7 : Option AV} {L2 : List (Nat × AV)} {St : List AV} {S : SS} : ev c 311 2432 [l0, l1, l2, l3, l4, l5, l6, l7] L2 St S = ev c 311 2799 [l0, l1, l2, l3, l4, l5, l6, l7] L2 St S := ev_go i311_2432 rfl
theorem i311_2435 : insAt 311 2435 = some (.aload_n 1, 1, (0, 0, 0, 0), 0) := rfl
theorem s311_2435 {c : Nat → List AV → SS → Option Out} {l0 l2 l3 l4 l5 l6 l7 : Option AV} {o : OId} {L2 : List (Nat × AV)} {St : List AV} {S : SS} : ev c 311 2435 [l0, some (aR o), l2, l3, l4, l5, l6, l7] L2 St S = ev c 311 2436 [l0, some (aR o), l2, l3, l4, l5, l6, l7] L2 (aR o :: St) S := ev_go i311_2435 rfl
theorem i311_2436 : insAt 311 2436 = some (.aload_n 0, 1, (0, 0, 0, 0), 0) := rfl
theorem s311_2436 {c : Nat → List AV → SS → Option Out} {l1 l2 l3 l4 l5 l6 l7 : Option AV} {o : OId} {L2 : List (Nat × AV)} {St : List AV} {S : SS} : ev c 311 2436 [some (aR o), l1, l2, l3, l4, l5, l6, l7] L2 St S = ev c 311 2437 [some (aR o), l1, l2, l3, l4, l5, l6, l7] L2 (aR o :: St) S := ev_go i311_2436 rfl
theorem i311_2437 : insAt 311 2437 = some (.iload 5, 2, (0, 0, 0, 0), 0) := rfl
theorem s311_2437 {c : Nat → List AV → SS → Option Out} {l0 l1 l2 l3 l4 l6 l7 : Option AV} {x : Int32} {L2 : List (Nat × AV)} {St : List AV} {S : SS} : ev c 311 2437 [l0, l1, l2, l3, l4, some (aI x), l6, l7] L2 St S = ev c 311 2439 [l0, l1, l2, l3, l4, some (aI x), l6, l7] L2 (aI x :: St) S := ev_go i311_2437 rfl
theorem i311_2439 : insAt 311 2439 = some (.iconst 1, 1, (0, 0, 0, 0), 0) := rfl
theorem s311_2439 {c : Nat → List AV → SS → Option Out} {l0 l1 l2 l3 l4 l5 l6 l7 : Option AV} {L2 : List (Nat × AV)} {St : List AV} {S : SS} : ev c 311 2439 [l0, l1, l2, l3, l4, l5, l6, l7] L2 St S = ev c 311 2440 [l0, l1, l2, l3, l4, l5, l6, l7] L2 (aI 1 :: St) S := ev_go i311_2439 rfl
theorem i311_2440 : insAt 311 2440 = some (.iadd, 1, (0, 0, 0, 0), 0) := rfl
theorem s311_2440 {c : Nat → List AV → SS → Option Out} {l0 l1 l2 l3 l4 l5 l6 l7 : Option AV} {x y : Int32} {L2 : List (Nat × AV)} {St : List AV} {S : SS} : ev c 311 2440 [l0, l1, l2, l3, l4, l5, l6, l7] L2 (aI y :: aI x :: St) S = ev c 311 2441 [l0, l1, l2, l3, l4, l5, l6, l7] L2 (aI (x + y) :: St) S := ev_go i311_2440 rfl
theorem i311_2441 : insAt 311 2441 = some (.iaload, 1, (0, 0, 0, 0), 0) := rfl
theorem s311_2441 {c : Nat → List AV → SS → Option Out} {l0 l1 l2 l3 l4 l5 l6 l7 : Option AV} {i : Int32} {o : OId} {L2 : List (Nat × AV)} {St : List AV} {S : SS} : ev c 311 2441 [l0, l1, l2, l3, l4, l5, l6, l7] L2 (aI i :: aR o :: St) S = kI o i (ev c 311 2442 [l0, l1, l2, l3, l4, l5, l6, l7] L2 (aI (agI S o i.toNatClampNeg) :: St) S) := ev_iaload i311_2441
theorem i311_2442 : insAt 311 2442 = some (.aload_n 3, 1, (0, 0, 0, 0), 0) := rfl
theorem s311_2442 {c : Nat → List AV → SS → Option Out} {l0 l1 l2 l4 l5 l6 l7 : Option AV} {o : OId} {L2 : List (Nat × AV)} {St : List AV} {S : SS} : ev c 311 2442 [l0, l1, l2, some (aR o), l4, l5, l6, l7] L2 St S = ev c 311 2443 [l0, l1, l2, some (aR o), l4, l5, l6, l7] L2 (aR o :: St) S := ev_go i311_2442 rfl
theorem i311_2443 : insAt 311 2443 = some (.invokestatic 287, 3, (166, 3, 0, 0), 522) := rfl
theorem s311_2443 {c : Nat → List AV → SS → Option Out} {l0 l1 l2 l3 l4 l5 l6 l7 : Option AV} {a0 : OId} {a1 : Int32} {a2 : OId} {L2 : List (Nat × AV)} {S : SS} : ev c 311 2443 [l0, l1, l2, l3, l4, l5, l6, l7] L2 [aR a2, aI a1, aR a0] S = ck (c 166 [aR a0, aI a1, aR a2] S) (fun v S' => ev c 311 2446 [l0, l1, l2, l3, l4, l5, l6, l7] L2 (v.toList ++ []) S') := ev_call i311_2443 rfl
theorem i311_2446 : insAt 311 2446 = some (.istore 6, 2, (0, 0, 0, 0), 0) := rfl
theorem s311_2446 {c : Nat → List AV → SS → Option Out} {l0 l1 l2 l3 l4 l5 l6 l7 : Option AV} {x : Int32} {L2 : List (Nat × AV)} {St : List AV} {S : SS} : ev c 311 2446 [l0, l1, l2, l3, l4, l5, l6, l7] L2 (aI x :: St) S = ev c 311 2448 [l0, l1, l2, l3, l4, l5, some (aI x), l7] (kil L2 6) St S := ev_go i311_2446 rfl
theorem i311_2448 : insAt 311 2448 = some (.aload_n 2, 1, (0, 0, 0, 0), 0) := rfl
theorem s311_2448 {c : Nat → List AV → SS → Option Out} {l0 l1 l3 l4 l5 l6 l7 : Option AV} {o : OId} {L2 : List (Nat × AV)} {St : List AV} {S : SS} : ev c 311 2448 [l0, l1, some (aR o), l3, l4, l5, l6, l7] L2 St S = ev c 311 2449 [l0, l1, some (aR o), l3, l4, l5, l6, l7] L2 (aR o :: St) S := ev_go i311_2448 rfl
theorem i311_2449 : insAt 311 2449 = some (.aload_n 0, 1, (0, 0, 0, 0), 0) := rfl
theorem s311_2449 {c : Nat → List AV → SS → Option Out} {l1 l2 l3 l4 l5 l6 l7 : Option AV} {o : OId} {L2 : List (Nat × AV)} {St : List AV} {S : SS} : ev c 311 2449 [some (aR o), l1, l2, l3, l4, l5, l6, l7] L2 St S = ev c 311 2450 [some (aR o), l1, l2, l3, l4, l5, l6, l7] L2 (aR o :: St) S := ev_go i311_2449 rfl
theorem i311_2450 : insAt 311 2450 = some (.iload 5, 2, (0, 0, 0, 0), 0) := rfl
theorem s311_2450 {c : Nat → List AV → SS → Option Out} {l0 l1 l2 l3 l4 l6 l7 : Option AV} {x : Int32} {L2 : List (Nat × AV)} {St : List AV} {S : SS} : ev c 311 2450 [l0, l1, l2, l3, l4, some (aI x), l6, l7] L2 St S = ev c 311 2452 [l0, l1, l2, l3, l4, some (aI x), l6, l7] L2 (aI x :: St) S := ev_go i311_2450 rfl
theorem i311_2452 : insAt 311 2452 = some (.iconst 1, 1, (0, 0, 0, 0), 0) := rfl
theorem s311_2452 {c : Nat → List AV → SS → Option Out} {l0 l1 l2 l3 l4 l5 l6 l7 : Option AV} {L2 : List (Nat × AV)} {St : List AV} {S : SS} : ev c 311 2452 [l0, l1, l2, l3, l4, l5, l6, l7] L2 St S = ev c 311 2453 [l0, l1, l2, l3, l4, l5, l6, l7] L2 (aI 1 :: St) S := ev_go i311_2452 rfl
theorem i311_2453 : insAt 311 2453 = some (.iadd, 1, (0, 0, 0, 0), 0) := rfl
theorem s311_2453 {c : Nat → List AV → SS → Option Out} {l0 l1 l2 l3 l4 l5 l6 l7 : Option AV} {x y : Int32} {L2 : List (Nat × AV)} {St : List AV} {S : SS} : ev c 311 2453 [l0, l1, l2, l3, l4, l5, l6, l7] L2 (aI y :: aI x :: St) S = ev c 311 2454 [l0, l1, l2, l3, l4, l5, l6, l7] L2 (aI (x + y) :: St) S := ev_go i311_2453 rfl
theorem i311_2454 : insAt 311 2454 = some (.iaload, 1, (0, 0, 0, 0), 0) := rfl
theorem s311_2454 {c : Nat → List AV → SS → Option Out} {l0 l1 l2 l3 l4 l5 l6 l7 : Option AV} {i : Int32} {o : OId} {L2 : List (Nat × AV)} {St : List AV} {S : SS} : ev c 311 2454 [l0, l1, l2, l3, l4, l5, l6, l7] L2 (aI i :: aR o :: St) S = kI o i (ev c 311 2455 [l0, l1, l2, l3, l4, l5, l6, l7] L2 (aI (agI S o i.toNatClampNeg) :: St) S) := ev_iaload i311_2454
theorem i311_2455 : insAt 311 2455 = some (.invokevirtual 289, 3, (297, 1, 2, 12), 523) := rfl
theorem s311_2455 {c : Nat → List AV → SS → Option Out} {l0 l1 l2 l3 l4 l5 l6 l7 : Option AV} {a0 : Int32} {j t : Nat} {L2 : List (Nat × AV)} {S : SS} : ev c 311 2455 [l0, l1, l2, l3, l4, l5, l6, l7] L2 [aI a0, aR (12, j, t)] S = ck (c 297 [aR (12, j, t), aI a0] S) (fun v S' => ev c 311 2458 [l0, l1, l2, l3, l4, l5, l6, l7] L2 (v.toList ++ []) S') := ev_call i311_2455 rfl
theorem i311_2458 : insAt 311 2458 = some (.istore 7, 2, (0, 0, 0, 0), 0) := rfl
theorem s311_2458 {c : Nat → List AV → SS → Option Out} {l0 l1 l2 l3 l4 l5 l6 l7 : Option AV} {x : Int32} {L2 : List (Nat × AV)} {St : List AV} {S : SS} : ev c 311 2458 [l0, l1, l2, l3, l4, l5, l6, l7] L2 (aI x :: St) S = ev c 311 2460 [l0, l1, l2, l3, l4, l5, l6, some (aI x)] (kil L2 7) St S := ev_go i311_2458 rfl
theorem i311_2460 : insAt 311 2460 = some (.aload_n 2, 1, (0, 0, 0, 0), 0) := rfl
theorem s311_2460 {c : Nat → List AV → SS → Option Out} {l0 l1 l3 l4 l5 l6 l7 : Option AV} {o : OId} {L2 : List (Nat × AV)} {St : List AV} {S : SS} : ev c 311 2460 [l0, l1, some (aR o), l3, l4, l5, l6, l7] L2 St S = ev c 311 2461 [l0, l1, some (aR o), l3, l4, l5, l6, l7] L2 (aR o :: St) S := ev_go i311_2460 rfl
theorem i311_2461 : insAt 311 2461 = some (.invokevirtual 149, 3, (215, 0, 2, 12), 441) := rfl
theorem s311_2461 {c : Nat → List AV → SS → Option Out} {l0 l1 l2 l3 l4 l5 l6 l7 : Option AV} {j t : Nat} {L2 : List (Nat × AV)} {S : SS} : ev c 311 2461 [l0, l1, l2, l3, l4, l5, l6, l7] L2 [aR (12, j, t)] S = ck (c 215 [aR (12, j, t)] S) (fun v S' => ev c 311 2464 [l0, l1, l2, l3, l4, l5, l6, l7] L2 (v.toList ++ []) S') := ev_call i311_2461 rfl
theorem i311_2464 : insAt 311 2464 = some (.iload 6, 2, (0, 0, 0, 0), 0) := rfl
theorem s311_2464 {c : Nat → List AV → SS → Option Out} {l0 l1 l2 l3 l4 l5 l7 : Option AV} {x : Int32} {L2 : List (Nat × AV)} {St : List AV} {S : SS} : ev c 311 2464 [l0, l1, l2, l3, l4, l5, some (aI x), l7] L2 St S = ev c 311 2466 [l0, l1, l2, l3, l4, l5, some (aI x), l7] L2 (aI x :: St) S := ev_go i311_2464 rfl
theorem i311_2466 : insAt 311 2466 = some (.if_icmp .eq 5, 3, (0, 0, 0, 0), 0) := rfl
theorem s311_2466 {c : Nat → List AV → SS → Option Out} {l0 l1 l2 l3 l4 l5 l6 l7 : Option AV} {x y : Int32} {L2 : List (Nat × AV)} {St : List AV} {S : SS} : ev c 311 2466 [l0, l1, l2, l3, l4, l5, l6, l7] L2 (aI y :: aI x :: St) S = if x = y then ev c 311 2471 [l0, l1, l2, l3, l4, l5, l6, l7] L2 St S else ev c 311 2469 [l0, l1, l2, l3, l4, l5, l6, l7] L2 St S := ev_br i311_2466 rfl
theorem i311_2469 : insAt 311 2469 = some (.iconst 0, 1, (0, 0, 0, 0), 0) := rfl
theorem s311_2469 {c : Nat → List AV → SS → Option Out} {l0 l1 l2 l3 l4 l5 l6 l7 : Option AV} {L2 : List (Nat × AV)} {St : List AV} {S : SS} : ev c 311 2469 [l0, l1, l2, l3, l4, l5, l6, l7] L2 St S = ev c 311 2470 [l0, l1, l2, l3, l4, l5, l6, l7] L2 (aI 0 :: St) S := ev_go i311_2469 rfl
theorem i311_2470 : insAt 311 2470 = some (.ireturn, 1, (0, 0, 0, 0), 0) := rfl
theorem s311_2470 {c : Nat → List AV → SS → Option Out} {l0 l1 l2 l3 l4 l5 l6 l7 : Option AV} {x : Int32} {L2 : List (Nat × AV)} {S : SS} : ev c 311 2470 [l0, l1, l2, l3, l4, l5, l6, l7] L2 [aI x] S = if x = 0 ∨ x = 1 then some (.inl (some (aI x)), S) else none := ev_rt i311_2470 rfl
theorem i311_2471 : insAt 311 2471 = some (.iload 6, 2, (0, 0, 0, 0), 0) := rfl
theorem s311_2471 {c : Nat → List AV → SS → Option Out} {l0 l1 l2 l3 l4 l5 l7 : Option AV} {x : Int32} {L2 : List (Nat × AV)} {St : List AV} {S : SS} : ev c 311 2471 [l0, l1, l2, l3, l4, l5, some (aI x), l7] L2 St S = ev c 311 2473 [l0, l1, l2, l3, l4, l5, some (aI x), l7] L2 (aI x :: St) S := ev_go i311_2471 rfl
theorem i311_2473 : insAt 311 2473 = some (.ifCond .ne 15, 3, (0, 0, 0, 0), 0) := rfl
theorem s311_2473 {c : Nat → List AV → SS → Option Out} {l0 l1 l2 l3 l4 l5 l6 l7 : Option AV} {x : Int32} {L2 : List (Nat × AV)} {St : List AV} {S : SS} : ev c 311 2473 [l0, l1, l2, l3, l4, l5, l6, l7] L2 (aI x :: St) S = if x = 0 then ev c 311 2476 [l0, l1, l2, l3, l4, l5, l6, l7] L2 St S else ev c 311 2488 [l0, l1, l2, l3, l4, l5, l6, l7] L2 St S := (ev_br i311_2473 rfl).trans (ite_not _ _ _)
theorem i311_2476 : insAt 311 2476 = some (.aload_n 3, 1, (0, 0, 0, 0), 0) := rfl
theorem s311_2476 {c : Nat → List AV → SS → Option Out} {l0 l1 l2 l4 l5 l6 l7 : Option AV} {o : OId} {L2 : List (Nat × AV)} {St : List AV} {S : SS} : ev c 311 2476 [l0, l1, l2, some (aR o), l4, l5, l6, l7] L2 St S = ev c 311 2477 [l0, l1, l2, some (aR o), l4, l5, l6, l7] L2 (aR o :: St) S := ev_go i311_2476 rfl
theorem i311_2477 : insAt 311 2477 = some (.iconst 0, 1, (0, 0, 0, 0), 0) := rfl
theorem s311_2477 {c : Nat → List AV → SS → Option Out} {l0 l1 l2 l3 l4 l5 l6 l7 : Option AV} {L2 : List (Nat × AV)} {St : List AV} {S : SS} : ev c 311 2477 [l0, l1, l2, l3, l4, l5, l6, l7] L2 St S = ev c 311 2478 [l0, l1, l2, l3, l4, l5, l6, l7] L2 (aI 0 :: St) S := ev_go i311_2477 rfl
theorem i311_2478 : insAt 311 2478 = some (.laload, 1, (0, 0, 0, 0), 0) := rfl
theorem s311_2478 {c : Nat → List AV → SS → Option Out} {l0 l1 l2 l3 l4 l5 l6 l7 : Option AV} {i : Int32} {o : OId} {L2 : List (Nat × AV)} {St : List AV} {S : SS} : ev c 311 2478 [l0, l1, l2, l3, l4, l5, l6, l7] L2 (aI i :: aR o :: St) S = kJ o i (ev c 311 2479 [l0, l1, l2, l3, l4, l5, l6, l7] L2 (aL (toL (S.2.1 o i.toNatClampNeg)) :: St) S) := ev_laload i311_2478
theorem i311_2479 : insAt 311 2479 = some (.iload 7, 2, (0, 0, 0, 0), 0) := rfl
theorem s311_2479 {c : Nat → List AV → SS → Option Out} {l0 l1 l2 l3 l4 l5 l6 : Option AV} {x : Int32} {L2 : List (Nat × AV)} {St : List AV} {S : SS} : ev c 311 2479 [l0, l1, l2, l3, l4, l5, l6, some (aI x)] L2 St S = ev c 311 2481 [l0, l1, l2, l3, l4, l5, l6, some (aI x)] L2 (aI x :: St) S := ev_go i311_2479 rfl
theorem i311_2481 : insAt 311 2481 = some (.i2l, 1, (0, 0, 0, 0), 0) := rfl
theorem s311_2481 {c : Nat → List AV → SS → Option Out} {l0 l1 l2 l3 l4 l5 l6 l7 : Option AV} {x : Int32} {L2 : List (Nat × AV)} {St : List AV} {S : SS} : ev c 311 2481 [l0, l1, l2, l3, l4, l5, l6, l7] L2 (aI x :: St) S = ev c 311 2482 [l0, l1, l2, l3, l4, l5, l6, l7] L2 (aL x.toInt64 :: St) S := ev_go i311_2481 rfl
theorem i311_2482 : insAt 311 2482 = some (.lcmp, 1, (0, 0, 0, 0), 0) := rfl
theorem s311_2482 {c : Nat → List AV → SS → Option Out} {l0 l1 l2 l3 l4 l5 l6 l7 : Option AV} {x y : Int64} {L2 : List (Nat × AV)} {St : List AV} {S : SS} : ev c 311 2482 [l0, l1, l2, l3, l4, l5, l6, l7] L2 (aL y :: aL x :: St) S = ev c 311 2483 [l0, l1, l2, l3, l4, l5, l6, l7] L2 (aI (if x < y then -1 else if x = y then 0 else 1) :: St) S := ev_go i311_2482 rfl
theorem i311_2483 : insAt 311 2483 = some (.ifCond .eq 5, 3, (0, 0, 0, 0), 0) := rfl
theorem s311_2483 {c : Nat → List AV → SS → Option Out} {l0 l1 l2 l3 l4 l5 l6 l7 : Option AV} {x : Int32} {L2 : List (Nat × AV)} {St : List AV} {S : SS} : ev c 311 2483 [l0, l1, l2, l3, l4, l5, l6, l7] L2 (aI x :: St) S = if x = 0 then ev c 311 2488 [l0, l1, l2, l3, l4, l5, l6, l7] L2 St S else ev c 311 2486 [l0, l1, l2, l3, l4, l5, l6, l7] L2 St S := ev_br i311_2483 rfl
theorem i311_2486 : insAt 311 2486 = some (.iconst 0, 1, (0, 0, 0, 0), 0) := rfl
theorem s311_2486 {c : Nat → List AV → SS → Option Out} {l0 l1 l2 l3 l4 l5 l6 l7 : Option AV} {L2 : List (Nat × AV)} {St : List AV} {S : SS} : ev c 311 2486 [l0, l1, l2, l3, l4, l5, l6, l7] L2 St S = ev c 311 2487 [l0, l1, l2, l3, l4, l5, l6, l7] L2 (aI 0 :: St) S := ev_go i311_2486 rfl
theorem i311_2487 : insAt 311 2487 = some (.ireturn, 1, (0, 0, 0, 0), 0) := rfl
theorem s311_2487 {c : Nat → List AV → SS → Option Out} {l0 l1 l2 l3 l4 l5 l6 l7 : Option AV} {x : Int32} {L2 : List (Nat × AV)} {S : SS} : ev c 311 2487 [l0, l1, l2, l3, l4, l5, l6, l7] L2 [aI x] S = if x = 0 ∨ x = 1 then some (.inl (some (aI x)), S) else none := ev_rt i311_2487 rfl
theorem i311_2488 : insAt 311 2488 = some (.goto 311, 3, (0, 0, 0, 0), 0) := rfl
theorem s311_2488 {c : Nat → List AV → SS → Option Out} {l0 l1 l2 l3 l4 l5 l6 l7 : Option AV} {L2 : List (Nat × AV)} {St : List AV} {S : SS} : ev c 311 2488 [l0, l1, l2, l3, l4, l5, l6, l7] L2 St S = ev c 311 2799 [l0, l1, l2, l3, l4, l5, l6, l7] L2 St S := ev_go i311_2488 rfl
theorem i311_2491 : insAt 311 2491 = some (.aload_n 1, 1, (0, 0, 0, 0), 0) := rfl
theorem s311_2491 {c : Nat → List AV → SS → Option Out} {l0 l2 l3 l4 l5 l6 l7 : Option AV} {o : OId} {L2 : List (Nat × AV)} {St : List AV} {S : SS} : ev c 311 2491 [l0, some (aR o), l2, l3, l4, l5, l6, l7] L2 St S = ev c 311 2492 [l0, some (aR o), l2, l3, l4, l5, l6, l7] L2 (aR o :: St) S := ev_go i311_2491 rfl
theorem i311_2492 : insAt 311 2492 = some (.aload_n 0, 1, (0, 0, 0, 0), 0) := rfl
theorem s311_2492 {c : Nat → List AV → SS → Option Out} {l1 l2 l3 l4 l5 l6 l7 : Option AV} {o : OId} {L2 : List (Nat × AV)} {St : List AV} {S : SS} : ev c 311 2492 [some (aR o), l1, l2, l3, l4, l5, l6, l7] L2 St S = ev c 311 2493 [some (aR o), l1, l2, l3, l4, l5, l6, l7] L2 (aR o :: St) S := ev_go i311_2492 rfl
theorem i311_2493 : insAt 311 2493 = some (.iload 5, 2, (0, 0, 0, 0), 0) := rfl
theorem s311_2493 {c : Nat → List AV → SS → Option Out} {l0 l1 l2 l3 l4 l6 l7 : Option AV} {x : Int32} {L2 : List (Nat × AV)} {St : List AV} {S : SS} : ev c 311 2493 [l0, l1, l2, l3, l4, some (aI x), l6, l7] L2 St S = ev c 311 2495 [l0, l1, l2, l3, l4, some (aI x), l6, l7] L2 (aI x :: St) S := ev_go i311_2493 rfl
theorem i311_2495 : insAt 311 2495 = some (.iconst 1, 1, (0, 0, 0, 0), 0) := rfl
theorem s311_2495 {c : Nat → List AV → SS → Option Out} {l0 l1 l2 l3 l4 l5 l6 l7 : Option AV} {L2 : List (Nat × AV)} {St : List AV} {S : SS} : ev c 311 2495 [l0, l1, l2, l3, l4, l5, l6, l7] L2 St S = ev c 311 2496 [l0, l1, l2, l3, l4, l5, l6, l7] L2 (aI 1 :: St) S := ev_go i311_2495 rfl
theorem i311_2496 : insAt 311 2496 = some (.iadd, 1, (0, 0, 0, 0), 0) := rfl
theorem s311_2496 {c : Nat → List AV → SS → Option Out} {l0 l1 l2 l3 l4 l5 l6 l7 : Option AV} {x y : Int32} {L2 : List (Nat × AV)} {St : List AV} {S : SS} : ev c 311 2496 [l0, l1, l2, l3, l4, l5, l6, l7] L2 (aI y :: aI x :: St) S = ev c 311 2497 [l0, l1, l2, l3, l4, l5, l6, l7] L2 (aI (x + y) :: St) S := ev_go i311_2496 rfl
theorem i311_2497 : insAt 311 2497 = some (.iaload, 1, (0, 0, 0, 0), 0) := rfl
theorem s311_2497 {c : Nat → List AV → SS → Option Out} {l0 l1 l2 l3 l4 l5 l6 l7 : Option AV} {i : Int32} {o : OId} {L2 : List (Nat × AV)} {St : List AV} {S : SS} : ev c 311 2497 [l0, l1, l2, l3, l4, l5, l6, l7] L2 (aI i :: aR o :: St) S = kI o i (ev c 311 2498 [l0, l1, l2, l3, l4, l5, l6, l7] L2 (aI (agI S o i.toNatClampNeg) :: St) S) := ev_iaload i311_2497
theorem i311_2498 : insAt 311 2498 = some (.aload_n 3, 1, (0, 0, 0, 0), 0) := rfl
theorem s311_2498 {c : Nat → List AV → SS → Option Out} {l0 l1 l2 l4 l5 l6 l7 : Option AV} {o : OId} {L2 : List (Nat × AV)} {St : List AV} {S : SS} : ev c 311 2498 [l0, l1, l2, some (aR o), l4, l5, l6, l7] L2 St S = ev c 311 2499 [l0, l1, l2, some (aR o), l4, l5, l6, l7] L2 (aR o :: St) S := ev_go i311_2498 rfl
theorem i311_2499 : insAt 311 2499 = some (.invokestatic 290, 3, (168, 3, 0, 0), 524) := rfl
theorem s311_2499 {c : Nat → List AV → SS → Option Out} {l0 l1 l2 l3 l4 l5 l6 l7 : Option AV} {a0 : OId} {a1 : Int32} {a2 : OId} {L2 : List (Nat × AV)} {S : SS} : ev c 311 2499 [l0, l1, l2, l3, l4, l5, l6, l7] L2 [aR a2, aI a1, aR a0] S = ck (c 168 [aR a0, aI a1, aR a2] S) (fun v S' => ev c 311 2502 [l0, l1, l2, l3, l4, l5, l6, l7] L2 (v.toList ++ []) S') := ev_call i311_2499 rfl
theorem i311_2502 : insAt 311 2502 = some (.istore 6, 2, (0, 0, 0, 0), 0) := rfl
theorem s311_2502 {c : Nat → List AV → SS → Option Out} {l0 l1 l2 l3 l4 l5 l6 l7 : Option AV} {x : Int32} {L2 : List (Nat × AV)} {St : List AV} {S : SS} : ev c 311 2502 [l0, l1, l2, l3, l4, l5, l6, l7] L2 (aI x :: St) S = ev c 311 2504 [l0, l1, l2, l3, l4, l5, some (aI x), l7] (kil L2 6) St S := ev_go i311_2502 rfl
theorem i311_2504 : insAt 311 2504 = some (.aload_n 2, 1, (0, 0, 0, 0), 0) := rfl
theorem s311_2504 {c : Nat → List AV → SS → Option Out} {l0 l1 l3 l4 l5 l6 l7 : Option AV} {o : OId} {L2 : List (Nat × AV)} {St : List AV} {S : SS} : ev c 311 2504 [l0, l1, some (aR o), l3, l4, l5, l6, l7] L2 St S = ev c 311 2505 [l0, l1, some (aR o), l3, l4, l5, l6, l7] L2 (aR o :: St) S := ev_go i311_2504 rfl
theorem i311_2505 : insAt 311 2505 = some (.aload_n 0, 1, (0, 0, 0, 0), 0) := rfl
theorem s311_2505 {c : Nat → List AV → SS → Option Out} {l1 l2 l3 l4 l5 l6 l7 : Option AV} {o : OId} {L2 : List (Nat × AV)} {St : List AV} {S : SS} : ev c 311 2505 [some (aR o), l1, l2, l3, l4, l5, l6, l7] L2 St S = ev c 311 2506 [some (aR o), l1, l2, l3, l4, l5, l6, l7] L2 (aR o :: St) S := ev_go i311_2505 rfl
theorem i311_2506 : insAt 311 2506 = some (.iload 5, 2, (0, 0, 0, 0), 0) := rfl
theorem s311_2506 {c : Nat → List AV → SS → Option Out} {l0 l1 l2 l3 l4 l6 l7 : Option AV} {x : Int32} {L2 : List (Nat × AV)} {St : List AV} {S : SS} : ev c 311 2506 [l0, l1, l2, l3, l4, some (aI x), l6, l7] L2 St S = ev c 311 2508 [l0, l1, l2, l3, l4, some (aI x), l6, l7] L2 (aI x :: St) S := ev_go i311_2506 rfl
theorem i311_2508 : insAt 311 2508 = some (.iconst 1, 1, (0, 0, 0, 0), 0) := rfl
theorem s311_2508 {c : Nat → List AV → SS → Option Out} {l0 l1 l2 l3 l4 l5 l6 l7 : Option AV} {L2 : List (Nat × AV)} {St : List AV} {S : SS} : ev c 311 2508 [l0, l1, l2, l3, l4, l5, l6, l7] L2 St S = ev c 311 2509 [l0, l1, l2, l3, l4, l5, l6, l7] L2 (aI 1 :: St) S := ev_go i311_2508 rfl
theorem i311_2509 : insAt 311 2509 = some (.iadd, 1, (0, 0, 0, 0), 0) := rfl
theorem s311_2509 {c : Nat → List AV → SS → Option Out} {l0 l1 l2 l3 l4 l5 l6 l7 : Option AV} {x y : Int32} {L2 : List (Nat × AV)} {St : List AV} {S : SS} : ev c 311 2509 [l0, l1, l2, l3, l4, l5, l6, l7] L2 (aI y :: aI x :: St) S = ev c 311 2510 [l0, l1, l2, l3, l4, l5, l6, l7] L2 (aI (x + y) :: St) S := ev_go i311_2509 rfl
theorem i311_2510 : insAt 311 2510 = some (.iaload, 1, (0, 0, 0, 0), 0) := rfl
theorem s311_2510 {c : Nat → List AV → SS → Option Out} {l0 l1 l2 l3 l4 l5 l6 l7 : Option AV} {i : Int32} {o : OId} {L2 : List (Nat × AV)} {St : List AV} {S : SS} : ev c 311 2510 [l0, l1, l2, l3, l4, l5, l6, l7] L2 (aI i :: aR o :: St) S = kI o i (ev c 311 2511 [l0, l1, l2, l3, l4, l5, l6, l7] L2 (aI (agI S o i.toNatClampNeg) :: St) S) := ev_iaload i311_2510
theorem i311_2511 : insAt 311 2511 = some (.invokevirtual 292, 3, (298, 1, 2, 12), 525) := rfl
theorem s311_2511 {c : Nat → List AV → SS → Option Out} {l0 l1 l2 l3 l4 l5 l6 l7 : Option AV} {a0 : Int32} {j t : Nat} {L2 : List (Nat × AV)} {S : SS} : ev c 311 2511 [l0, l1, l2, l3, l4, l5, l6, l7] L2 [aI a0, aR (12, j, t)] S = ck (c 298 [aR (12, j, t), aI a0] S) (fun v S' => ev c 311 2514 [l0, l1, l2, l3, l4, l5, l6, l7] L2 (v.toList ++ []) S') := ev_call i311_2511 rfl
theorem i311_2514 : insAt 311 2514 = some (.istore 7, 2, (0, 0, 0, 0), 0) := rfl
theorem s311_2514 {c : Nat → List AV → SS → Option Out} {l0 l1 l2 l3 l4 l5 l6 l7 : Option AV} {x : Int32} {L2 : List (Nat × AV)} {St : List AV} {S : SS} : ev c 311 2514 [l0, l1, l2, l3, l4, l5, l6, l7] L2 (aI x :: St) S = ev c 311 2516 [l0, l1, l2, l3, l4, l5, l6, some (aI x)] (kil L2 7) St S := ev_go i311_2514 rfl
theorem i311_2516 : insAt 311 2516 = some (.aload_n 2, 1, (0, 0, 0, 0), 0) := rfl
theorem s311_2516 {c : Nat → List AV → SS → Option Out} {l0 l1 l3 l4 l5 l6 l7 : Option AV} {o : OId} {L2 : List (Nat × AV)} {St : List AV} {S : SS} : ev c 311 2516 [l0, l1, some (aR o), l3, l4, l5, l6, l7] L2 St S = ev c 311 2517 [l0, l1, some (aR o), l3, l4, l5, l6, l7] L2 (aR o :: St) S := ev_go i311_2516 rfl
theorem i311_2517 : insAt 311 2517 = some (.invokevirtual 149, 3, (215, 0, 2, 12), 441) := rfl
theorem s311_2517 {c : Nat → List AV → SS → Option Out} {l0 l1 l2 l3 l4 l5 l6 l7 : Option AV} {j t : Nat} {L2 : List (Nat × AV)} {S : SS} : ev c 311 2517 [l0, l1, l2, l3, l4, l5, l6, l7] L2 [aR (12, j, t)] S = ck (c 215 [aR (12, j, t)] S) (fun v S' => ev c 311 2520 [l0, l1, l2, l3, l4, l5, l6, l7] L2 (v.toList ++ []) S') := ev_call i311_2517 rfl
theorem i311_2520 : insAt 311 2520 = some (.iload 6, 2, (0, 0, 0, 0), 0) := rfl
theorem s311_2520 {c : Nat → List AV → SS → Option Out} {l0 l1 l2 l3 l4 l5 l7 : Option AV} {x : Int32} {L2 : List (Nat × AV)} {St : List AV} {S : SS} : ev c 311 2520 [l0, l1, l2, l3, l4, l5, some (aI x), l7] L2 St S = ev c 311 2522 [l0, l1, l2, l3, l4, l5, some (aI x), l7] L2 (aI x :: St) S := ev_go i311_2520 rfl
theorem i311_2522 : insAt 311 2522 = some (.if_icmp .eq 5, 3, (0, 0, 0, 0), 0) := rfl
theorem s311_2522 {c : Nat → List AV → SS → Option Out} {l0 l1 l2 l3 l4 l5 l6 l7 : Option AV} {x y : Int32} {L2 : List (Nat × AV)} {St : List AV} {S : SS} : ev c 311 2522 [l0, l1, l2, l3, l4, l5, l6, l7] L2 (aI y :: aI x :: St) S = if x = y then ev c 311 2527 [l0, l1, l2, l3, l4, l5, l6, l7] L2 St S else ev c 311 2525 [l0, l1, l2, l3, l4, l5, l6, l7] L2 St S := ev_br i311_2522 rfl
theorem i311_2525 : insAt 311 2525 = some (.iconst 0, 1, (0, 0, 0, 0), 0) := rfl
theorem s311_2525 {c : Nat → List AV → SS → Option Out} {l0 l1 l2 l3 l4 l5 l6 l7 : Option AV} {L2 : List (Nat × AV)} {St : List AV} {S : SS} : ev c 311 2525 [l0, l1, l2, l3, l4, l5, l6, l7] L2 St S = ev c 311 2526 [l0, l1, l2, l3, l4, l5, l6, l7] L2 (aI 0 :: St) S := ev_go i311_2525 rfl
theorem i311_2526 : insAt 311 2526 = some (.ireturn, 1, (0, 0, 0, 0), 0) := rfl
theorem s311_2526 {c : Nat → List AV → SS → Option Out} {l0 l1 l2 l3 l4 l5 l6 l7 : Option AV} {x : Int32} {L2 : List (Nat × AV)} {S : SS} : ev c 311 2526 [l0, l1, l2, l3, l4, l5, l6, l7] L2 [aI x] S = if x = 0 ∨ x = 1 then some (.inl (some (aI x)), S) else none := ev_rt i311_2526 rfl
theorem i311_2527 : insAt 311 2527 = some (.iload 6, 2, (0, 0, 0, 0), 0) := rfl
theorem s311_2527 {c : Nat → List AV → SS → Option Out} {l0 l1 l2 l3 l4 l5 l7 : Option AV} {x : Int32} {L2 : List (Nat × AV)} {St : List AV} {S : SS} : ev c 311 2527 [l0, l1, l2, l3, l4, l5, some (aI x), l7] L2 St S = ev c 311 2529 [l0, l1, l2, l3, l4, l5, some (aI x), l7] L2 (aI x :: St) S := ev_go i311_2527 rfl
theorem i311_2529 : insAt 311 2529 = some (.ifCond .ne 15, 3, (0, 0, 0, 0), 0) := rfl
theorem s311_2529 {c : Nat → List AV → SS → Option Out} {l0 l1 l2 l3 l4 l5 l6 l7 : Option AV} {x : Int32} {L2 : List (Nat × AV)} {St : List AV} {S : SS} : ev c 311 2529 [l0, l1, l2, l3, l4, l5, l6, l7] L2 (aI x :: St) S = if x = 0 then ev c 311 2532 [l0, l1, l2, l3, l4, l5, l6, l7] L2 St S else ev c 311 2544 [l0, l1, l2, l3, l4, l5, l6, l7] L2 St S := (ev_br i311_2529 rfl).trans (ite_not _ _ _)
theorem i311_2532 : insAt 311 2532 = some (.aload_n 3, 1, (0, 0, 0, 0), 0) := rfl
theorem s311_2532 {c : Nat → List AV → SS → Option Out} {l0 l1 l2 l4 l5 l6 l7 : Option AV} {o : OId} {L2 : List (Nat × AV)} {St : List AV} {S : SS} : ev c 311 2532 [l0, l1, l2, some (aR o), l4, l5, l6, l7] L2 St S = ev c 311 2533 [l0, l1, l2, some (aR o), l4, l5, l6, l7] L2 (aR o :: St) S := ev_go i311_2532 rfl
theorem i311_2533 : insAt 311 2533 = some (.iconst 0, 1, (0, 0, 0, 0), 0) := rfl
theorem s311_2533 {c : Nat → List AV → SS → Option Out} {l0 l1 l2 l3 l4 l5 l6 l7 : Option AV} {L2 : List (Nat × AV)} {St : List AV} {S : SS} : ev c 311 2533 [l0, l1, l2, l3, l4, l5, l6, l7] L2 St S = ev c 311 2534 [l0, l1, l2, l3, l4, l5, l6, l7] L2 (aI 0 :: St) S := ev_go i311_2533 rfl
theorem i311_2534 : insAt 311 2534 = some (.laload, 1, (0, 0, 0, 0), 0) := rfl
theorem s311_2534 {c : Nat → List AV → SS → Option Out} {l0 l1 l2 l3 l4 l5 l6 l7 : Option AV} {i : Int32} {o : OId} {L2 : List (Nat × AV)} {St : List AV} {S : SS} : ev c 311 2534 [l0, l1, l2, l3, l4, l5, l6, l7] L2 (aI i :: aR o :: St) S = kJ o i (ev c 311 2535 [l0, l1, l2, l3, l4, l5, l6, l7] L2 (aL (toL (S.2.1 o i.toNatClampNeg)) :: St) S) := ev_laload i311_2534
theorem i311_2535 : insAt 311 2535 = some (.iload 7, 2, (0, 0, 0, 0), 0) := rfl
theorem s311_2535 {c : Nat → List AV → SS → Option Out} {l0 l1 l2 l3 l4 l5 l6 : Option AV} {x : Int32} {L2 : List (Nat × AV)} {St : List AV} {S : SS} : ev c 311 2535 [l0, l1, l2, l3, l4, l5, l6, some (aI x)] L2 St S = ev c 311 2537 [l0, l1, l2, l3, l4, l5, l6, some (aI x)] L2 (aI x :: St) S := ev_go i311_2535 rfl
theorem i311_2537 : insAt 311 2537 = some (.i2l, 1, (0, 0, 0, 0), 0) := rfl
theorem s311_2537 {c : Nat → List AV → SS → Option Out} {l0 l1 l2 l3 l4 l5 l6 l7 : Option AV} {x : Int32} {L2 : List (Nat × AV)} {St : List AV} {S : SS} : ev c 311 2537 [l0, l1, l2, l3, l4, l5, l6, l7] L2 (aI x :: St) S = ev c 311 2538 [l0, l1, l2, l3, l4, l5, l6, l7] L2 (aL x.toInt64 :: St) S := ev_go i311_2537 rfl
theorem i311_2538 : insAt 311 2538 = some (.lcmp, 1, (0, 0, 0, 0), 0) := rfl
theorem s311_2538 {c : Nat → List AV → SS → Option Out} {l0 l1 l2 l3 l4 l5 l6 l7 : Option AV} {x y : Int64} {L2 : List (Nat × AV)} {St : List AV} {S : SS} : ev c 311 2538 [l0, l1, l2, l3, l4, l5, l6, l7] L2 (aL y :: aL x :: St) S = ev c 311 2539 [l0, l1, l2, l3, l4, l5, l6, l7] L2 (aI (if x < y then -1 else if x = y then 0 else 1) :: St) S := ev_go i311_2538 rfl
theorem i311_2539 : insAt 311 2539 = some (.ifCond .eq 5, 3, (0, 0, 0, 0), 0) := rfl
theorem s311_2539 {c : Nat → List AV → SS → Option Out} {l0 l1 l2 l3 l4 l5 l6 l7 : Option AV} {x : Int32} {L2 : List (Nat × AV)} {St : List AV} {S : SS} : ev c 311 2539 [l0, l1, l2, l3, l4, l5, l6, l7] L2 (aI x :: St) S = if x = 0 then ev c 311 2544 [l0, l1, l2, l3, l4, l5, l6, l7] L2 St S else ev c 311 2542 [l0, l1, l2, l3, l4, l5, l6, l7] L2 St S := ev_br i311_2539 rfl
theorem i311_2542 : insAt 311 2542 = some (.iconst 0, 1, (0, 0, 0, 0), 0) := rfl
theorem s311_2542 {c : Nat → List AV → SS → Option Out} {l0 l1 l2 l3 l4 l5 l6 l7 : Option AV} {L2 : List (Nat × AV)} {St : List AV} {S : SS} : ev c 311 2542 [l0, l1, l2, l3, l4, l5, l6, l7] L2 St S = ev c 311 2543 [l0, l1, l2, l3, l4, l5, l6, l7] L2 (aI 0 :: St) S := ev_go i311_2542 rfl
theorem i311_2543 : insAt 311 2543 = some (.ireturn, 1, (0, 0, 0, 0), 0) := rfl
theorem s311_2543 {c : Nat → List AV → SS → Option Out} {l0 l1 l2 l3 l4 l5 l6 l7 : Option AV} {x : Int32} {L2 : List (Nat × AV)} {S : SS} : ev c 311 2543 [l0, l1, l2, l3, l4, l5, l6, l7] L2 [aI x] S = if x = 0 ∨ x = 1 then some (.inl (some (aI x)), S) else none := ev_rt i311_2543 rfl
theorem i311_2544 : insAt 311 2544 = some (.goto 255, 3, (0, 0, 0, 0), 0) := rfl
theorem s311_2544 {c : Nat → List AV → SS → Option Out} {l0 l1 l2 l3 l4 l5 l6 l7 : Option AV} {L2 : List (Nat × AV)} {St : List AV} {S : SS} : ev c 311 2544 [l0, l1, l2, l3, l4, l5, l6, l7] L2 St S = ev c 311 2799 [l0, l1, l2, l3, l4, l5, l6, l7] L2 St S := ev_go i311_2544 rfl
theorem i311_2547 : insAt 311 2547 = some (.aload_n 1, 1, (0, 0, 0, 0), 0) := rfl
theorem s311_2547 {c : Nat → List AV → SS → Option Out} {l0 l2 l3 l4 l5 l6 l7 : Option AV} {o : OId} {L2 : List (Nat × AV)} {St : List AV} {S : SS} : ev c 311 2547 [l0, some (aR o), l2, l3, l4, l5, l6, l7] L2 St S = ev c 311 2548 [l0, some (aR o), l2, l3, l4, l5, l6, l7] L2 (aR o :: St) S := ev_go i311_2547 rfl
theorem i311_2548 : insAt 311 2548 = some (.invokevirtual 293, 3, (32, 0, 2, 11), 526) := rfl
theorem s311_2548 {c : Nat → List AV → SS → Option Out} {l0 l1 l2 l3 l4 l5 l6 l7 : Option AV} {j t : Nat} {L2 : List (Nat × AV)} {S : SS} : ev c 311 2548 [l0, l1, l2, l3, l4, l5, l6, l7] L2 [aR (11, j, t)] S = ck (c 32 [aR (11, j, t)] S) (fun v S' => ev c 311 2551 [l0, l1, l2, l3, l4, l5, l6, l7] L2 (v.toList ++ []) S') := ev_call i311_2548 rfl
theorem i311_2551 : insAt 311 2551 = some (.aload_n 2, 1, (0, 0, 0, 0), 0) := rfl
theorem s311_2551 {c : Nat → List AV → SS → Option Out} {l0 l1 l3 l4 l5 l6 l7 : Option AV} {o : OId} {L2 : List (Nat × AV)} {St : List AV} {S : SS} : ev c 311 2551 [l0, l1, some (aR o), l3, l4, l5, l6, l7] L2 St S = ev c 311 2552 [l0, l1, some (aR o), l3, l4, l5, l6, l7] L2 (aR o :: St) S := ev_go i311_2551 rfl
theorem i311_2552 : insAt 311 2552 = some (.invokevirtual 296, 3, (299, 0, 2, 12), 527) := rfl
theorem s311_2552 {c : Nat → List AV → SS → Option Out} {l0 l1 l2 l3 l4 l5 l6 l7 : Option AV} {t0 : AV} {j t : Nat} {L2 : List (Nat × AV)} {S : SS} : ev c 311 2552 [l0, l1, l2, l3, l4, l5, l6, l7] L2 [aR (12, j, t), t0] S = ck (c 299 [aR (12, j, t)] S) (fun v S' => ev c 311 2555 [l0, l1, l2, l3, l4, l5, l6, l7] L2 (v.toList ++ [t0]) S') := ev_call i311_2552 rfl
theorem i311_2555 : insAt 311 2555 = some (.if_icmp .eq 244, 3, (0, 0, 0, 0), 0) := rfl
theorem s311_2555 {c : Nat → List AV → SS → Option Out} {l0 l1 l2 l3 l4 l5 l6 l7 : Option AV} {x y : Int32} {L2 : List (Nat × AV)} {St : List AV} {S : SS} : ev c 311 2555 [l0, l1, l2, l3, l4, l5, l6, l7] L2 (aI y :: aI x :: St) S = if x = y then ev c 311 2799 [l0, l1, l2, l3, l4, l5, l6, l7] L2 St S else ev c 311 2558 [l0, l1, l2, l3, l4, l5, l6, l7] L2 St S := ev_br i311_2555 rfl
theorem i311_2558 : insAt 311 2558 = some (.iconst 0, 1, (0, 0, 0, 0), 0) := rfl
theorem s311_2558 {c : Nat → List AV → SS → Option Out} {l0 l1 l2 l3 l4 l5 l6 l7 : Option AV} {L2 : List (Nat × AV)} {St : List AV} {S : SS} : ev c 311 2558 [l0, l1, l2, l3, l4, l5, l6, l7] L2 St S = ev c 311 2559 [l0, l1, l2, l3, l4, l5, l6, l7] L2 (aI 0 :: St) S := ev_go i311_2558 rfl
theorem i311_2559 : insAt 311 2559 = some (.ireturn, 1, (0, 0, 0, 0), 0) := rfl
theorem s311_2559 {c : Nat → List AV → SS → Option Out} {l0 l1 l2 l3 l4 l5 l6 l7 : Option AV} {x : Int32} {L2 : List (Nat × AV)} {S : SS} : ev c 311 2559 [l0, l1, l2, l3, l4, l5, l6, l7] L2 [aI x] S = if x = 0 ∨ x = 1 then some (.inl (some (aI x)), S) else none := ev_rt i311_2559 rfl
theorem i311_2560 : insAt 311 2560 = some (.aload_n 1, 1, (0, 0, 0, 0), 0) := rfl
theorem s311_2560 {c : Nat → List AV → SS → Option Out} {l0 l2 l3 l4 l5 l6 l7 : Option AV} {o : OId} {L2 : List (Nat × AV)} {St : List AV} {S : SS} : ev c 311 2560 [l0, some (aR o), l2, l3, l4, l5, l6, l7] L2 St S = ev c 311 2561 [l0, some (aR o), l2, l3, l4, l5, l6, l7] L2 (aR o :: St) S := ev_go i311_2560 rfl
theorem i311_2561 : insAt 311 2561 = some (.invokevirtual 297, 3, (46, 0, 2, 11), 528) := rfl
theorem s311_2561 {c : Nat → List AV → SS → Option Out} {l0 l1 l2 l3 l4 l5 l6 l7 : Option AV} {j t : Nat} {L2 : List (Nat × AV)} {S : SS} : ev c 311 2561 [l0, l1, l2, l3, l4, l5, l6, l7] L2 [aR (11, j, t)] S = ck (c 46 [aR (11, j, t)] S) (fun v S' => ev c 311 2564 [l0, l1, l2, l3, l4, l5, l6, l7] L2 (v.toList ++ []) S') := ev_call i311_2561 rfl
theorem i311_2564 : insAt 311 2564 = some (.aload_n 2, 1, (0, 0, 0, 0), 0) := rfl
theorem s311_2564 {c : Nat → List AV → SS → Option Out} {l0 l1 l3 l4 l5 l6 l7 : Option AV} {o : OId} {L2 : List (Nat × AV)} {St : List AV} {S : SS} : ev c 311 2564 [l0, l1, some (aR o), l3, l4, l5, l6, l7] L2 St S = ev c 311 2565 [l0, l1, some (aR o), l3, l4, l5, l6, l7] L2 (aR o :: St) S := ev_go i311_2564 rfl
theorem i311_2565 : insAt 311 2565 = some (.invokevirtual 300, 3, (301, 0, 2, 12), 529) := rfl
theorem s311_2565 {c : Nat → List AV → SS → Option Out} {l0 l1 l2 l3 l4 l5 l6 l7 : Option AV} {t0 : AV} {j t : Nat} {L2 : List (Nat × AV)} {S : SS} : ev c 311 2565 [l0, l1, l2, l3, l4, l5, l6, l7] L2 [aR (12, j, t), t0] S = ck (c 301 [aR (12, j, t)] S) (fun v S' => ev c 311 2568 [l0, l1, l2, l3, l4, l5, l6, l7] L2 (v.toList ++ [t0]) S') := ev_call i311_2565 rfl
theorem i311_2568 : insAt 311 2568 = some (.if_icmp .eq 231, 3, (0, 0, 0, 0), 0) := rfl
theorem s311_2568 {c : Nat → List AV → SS → Option Out} {l0 l1 l2 l3 l4 l5 l6 l7 : Option AV} {x y : Int32} {L2 : List (Nat × AV)} {St : List AV} {S : SS} : ev c 311 2568 [l0, l1, l2, l3, l4, l5, l6, l7] L2 (aI y :: aI x :: St) S = if x = y then ev c 311 2799 [l0, l1, l2, l3, l4, l5, l6, l7] L2 St S else ev c 311 2571 [l0, l1, l2, l3, l4, l5, l6, l7] L2 St S := ev_br i311_2568 rfl
theorem i311_2571 : insAt 311 2571 = some (.iconst 0, 1, (0, 0, 0, 0), 0) := rfl
theorem s311_2571 {c : Nat → List AV → SS → Option Out} {l0 l1 l2 l3 l4 l5 l6 l7 : Option AV} {L2 : List (Nat × AV)} {St : List AV} {S : SS} : ev c 311 2571 [l0, l1, l2, l3, l4, l5, l6, l7] L2 St S = ev c 311 2572 [l0, l1, l2, l3, l4, l5, l6, l7] L2 (aI 0 :: St) S := ev_go i311_2571 rfl
theorem i311_2572 : insAt 311 2572 = some (.ireturn, 1, (0, 0, 0, 0), 0) := rfl
theorem s311_2572 {c : Nat → List AV → SS → Option Out} {l0 l1 l2 l3 l4 l5 l6 l7 : Option AV} {x : Int32} {L2 : List (Nat × AV)} {S : SS} : ev c 311 2572 [l0, l1, l2, l3, l4, l5, l6, l7] L2 [aI x] S = if x = 0 ∨ x = 1 then some (.inl (some (aI x)), S) else none := ev_rt i311_2572 rfl
theorem i311_2573 : insAt 311 2573 = some (.aload_n 1, 1, (0, 0, 0, 0), 0) := rfl
theorem s311_2573 {c : Nat → List AV → SS → Option Out} {l0 l2 l3 l4 l5 l6 l7 : Option AV} {o : OId} {L2 : List (Nat × AV)} {St : List AV} {S : SS} : ev c 311 2573 [l0, some (aR o), l2, l3, l4, l5, l6, l7] L2 St S = ev c 311 2574 [l0, some (aR o), l2, l3, l4, l5, l6, l7] L2 (aR o :: St) S := ev_go i311_2573 rfl
theorem i311_2574 : insAt 311 2574 = some (.invokevirtual 301, 3, (51, 0, 2, 11), 530) := rfl
theorem s311_2574 {c : Nat → List AV → SS → Option Out} {l0 l1 l2 l3 l4 l5 l6 l7 : Option AV} {j t : Nat} {L2 : List (Nat × AV)} {S : SS} : ev c 311 2574 [l0, l1, l2, l3, l4, l5, l6, l7] L2 [aR (11, j, t)] S = ck (c 51 [aR (11, j, t)] S) (fun v S' => ev c 311 2577 [l0, l1, l2, l3, l4, l5, l6, l7] L2 (v.toList ++ []) S') := ev_call i311_2574 rfl
theorem i311_2577 : insAt 311 2577 = some (.aload_n 2, 1, (0, 0, 0, 0), 0) := rfl
theorem s311_2577 {c : Nat → List AV → SS → Option Out} {l0 l1 l3 l4 l5 l6 l7 : Option AV} {o : OId} {L2 : List (Nat × AV)} {St : List AV} {S : SS} : ev c 311 2577 [l0, l1, some (aR o), l3, l4, l5, l6, l7] L2 St S = ev c 311 2578 [l0, l1, some (aR o), l3, l4, l5, l6, l7] L2 (aR o :: St) S := ev_go i311_2577 rfl
theorem i311_2578 : insAt 311 2578 = some (.invokevirtual 304, 3, (302, 0, 2, 12), 531) := rfl
theorem s311_2578 {c : Nat → List AV → SS → Option Out} {l0 l1 l2 l3 l4 l5 l6 l7 : Option AV} {t0 : AV} {j t : Nat} {L2 : List (Nat × AV)} {S : SS} : ev c 311 2578 [l0, l1, l2, l3, l4, l5, l6, l7] L2 [aR (12, j, t), t0] S = ck (c 302 [aR (12, j, t)] S) (fun v S' => ev c 311 2581 [l0, l1, l2, l3, l4, l5, l6, l7] L2 (v.toList ++ [t0]) S') := ev_call i311_2578 rfl
theorem i311_2581 : insAt 311 2581 = some (.if_icmp .eq 218, 3, (0, 0, 0, 0), 0) := rfl
theorem s311_2581 {c : Nat → List AV → SS → Option Out} {l0 l1 l2 l3 l4 l5 l6 l7 : Option AV} {x y : Int32} {L2 : List (Nat × AV)} {St : List AV} {S : SS} : ev c 311 2581 [l0, l1, l2, l3, l4, l5, l6, l7] L2 (aI y :: aI x :: St) S = if x = y then ev c 311 2799 [l0, l1, l2, l3, l4, l5, l6, l7] L2 St S else ev c 311 2584 [l0, l1, l2, l3, l4, l5, l6, l7] L2 St S := ev_br i311_2581 rfl
theorem i311_2584 : insAt 311 2584 = some (.iconst 0, 1, (0, 0, 0, 0), 0) := rfl
theorem s311_2584 {c : Nat → List AV → SS → Option Out} {l0 l1 l2 l3 l4 l5 l6 l7 : Option AV} {L2 : List (Nat × AV)} {St : List AV} {S : SS} : ev c 311 2584 [l0, l1, l2, l3, l4, l5, l6, l7] L2 St S = ev c 311 2585 [l0, l1, l2, l3, l4, l5, l6, l7] L2 (aI 0 :: St) S := ev_go i311_2584 rfl
theorem i311_2585 : insAt 311 2585 = some (.ireturn, 1, (0, 0, 0, 0), 0) := rfl
theorem s311_2585 {c : Nat → List AV → SS → Option Out} {l0 l1 l2 l3 l4 l5 l6 l7 : Option AV} {x : Int32} {L2 : List (Nat × AV)} {S : SS} : ev c 311 2585 [l0, l1, l2, l3, l4, l5, l6, l7] L2 [aI x] S = if x = 0 ∨ x = 1 then some (.inl (some (aI x)), S) else none := ev_rt i311_2585 rfl
theorem i311_2586 : insAt 311 2586 = some (.aload_n 1, 1, (0, 0, 0, 0), 0) := rfl
theorem s311_2586 {c : Nat → List AV → SS → Option Out} {l0 l2 l3 l4 l5 l6 l7 : Option AV} {o : OId} {L2 : List (Nat × AV)} {St : List AV} {S : SS} : ev c 311 2586 [l0, some (aR o), l2, l3, l4, l5, l6, l7] L2 St S = ev c 311 2587 [l0, some (aR o), l2, l3, l4, l5, l6, l7] L2 (aR o :: St) S := ev_go i311_2586 rfl
theorem i311_2587 : insAt 311 2587 = some (.aload_n 0, 1, (0, 0, 0, 0), 0) := rfl
theorem s311_2587 {c : Nat → List AV → SS → Option Out} {l1 l2 l3 l4 l5 l6 l7 : Option AV} {o : OId} {L2 : List (Nat × AV)} {St : List AV} {S : SS} : ev c 311 2587 [some (aR o), l1, l2, l3, l4, l5, l6, l7] L2 St S = ev c 311 2588 [some (aR o), l1, l2, l3, l4, l5, l6, l7] L2 (aR o :: St) S := ev_go i311_2587 rfl
theorem i311_2588 : insAt 311 2588 = some (.iload 5, 2, (0, 0, 0, 0), 0) := rfl
theorem s311_2588 {c : Nat → List AV → SS → Option Out} {l0 l1 l2 l3 l4 l6 l7 : Option AV} {x : Int32} {L2 : List (Nat × AV)} {St : List AV} {S : SS} : ev c 311 2588 [l0, l1, l2, l3, l4, some (aI x), l6, l7] L2 St S = ev c 311 2590 [l0, l1, l2, l3, l4, some (aI x), l6, l7] L2 (aI x :: St) S := ev_go i311_2588 rfl
theorem i311_2590 : insAt 311 2590 = some (.iconst 1, 1, (0, 0, 0, 0), 0) := rfl
theorem s311_2590 {c : Nat → List AV → SS → Option Out} {l0 l1 l2 l3 l4 l5 l6 l7 : Option AV} {L2 : List (Nat × AV)} {St : List AV} {S : SS} : ev c 311 2590 [l0, l1, l2, l3, l4, l5, l6, l7] L2 St S = ev c 311 2591 [l0, l1, l2, l3, l4, l5, l6, l7] L2 (aI 1 :: St) S := ev_go i311_2590 rfl
theorem i311_2591 : insAt 311 2591 = some (.iadd, 1, (0, 0, 0, 0), 0) := rfl
theorem s311_2591 {c : Nat → List AV → SS → Option Out} {l0 l1 l2 l3 l4 l5 l6 l7 : Option AV} {x y : Int32} {L2 : List (Nat × AV)} {St : List AV} {S : SS} : ev c 311 2591 [l0, l1, l2, l3, l4, l5, l6, l7] L2 (aI y :: aI x :: St) S = ev c 311 2592 [l0, l1, l2, l3, l4, l5, l6, l7] L2 (aI (x + y) :: St) S := ev_go i311_2591 rfl
theorem i311_2592 : insAt 311 2592 = some (.iaload, 1, (0, 0, 0, 0), 0) := rfl
theorem s311_2592 {c : Nat → List AV → SS → Option Out} {l0 l1 l2 l3 l4 l5 l6 l7 : Option AV} {i : Int32} {o : OId} {L2 : List (Nat × AV)} {St : List AV} {S : SS} : ev c 311 2592 [l0, l1, l2, l3, l4, l5, l6, l7] L2 (aI i :: aR o :: St) S = kI o i (ev c 311 2593 [l0, l1, l2, l3, l4, l5, l6, l7] L2 (aI (agI S o i.toNatClampNeg) :: St) S) := ev_iaload i311_2592
theorem i311_2593 : insAt 311 2593 = some (.aload_n 3, 1, (0, 0, 0, 0), 0) := rfl
theorem s311_2593 {c : Nat → List AV → SS → Option Out} {l0 l1 l2 l4 l5 l6 l7 : Option AV} {o : OId} {L2 : List (Nat × AV)} {St : List AV} {S : SS} : ev c 311 2593 [l0, l1, l2, some (aR o), l4, l5, l6, l7] L2 St S = ev c 311 2594 [l0, l1, l2, some (aR o), l4, l5, l6, l7] L2 (aR o :: St) S := ev_go i311_2593 rfl
theorem i311_2594 : insAt 311 2594 = some (.invokestatic 305, 3, (170, 3, 0, 0), 532) := rfl
theorem s311_2594 {c : Nat → List AV → SS → Option Out} {l0 l1 l2 l3 l4 l5 l6 l7 : Option AV} {a0 : OId} {a1 : Int32} {a2 : OId} {L2 : List (Nat × AV)} {S : SS} : ev c 311 2594 [l0, l1, l2, l3, l4, l5, l6, l7] L2 [aR a2, aI a1, aR a0] S = ck (c 170 [aR a0, aI a1, aR a2] S) (fun v S' => ev c 311 2597 [l0, l1, l2, l3, l4, l5, l6, l7] L2 (v.toList ++ []) S') := ev_call i311_2594 rfl
theorem i311_2597 : insAt 311 2597 = some (.istore 6, 2, (0, 0, 0, 0), 0) := rfl
theorem s311_2597 {c : Nat → List AV → SS → Option Out} {l0 l1 l2 l3 l4 l5 l6 l7 : Option AV} {x : Int32} {L2 : List (Nat × AV)} {St : List AV} {S : SS} : ev c 311 2597 [l0, l1, l2, l3, l4, l5, l6, l7] L2 (aI x :: St) S = ev c 311 2599 [l0, l1, l2, l3, l4, l5, some (aI x), l7] (kil L2 6) St S := ev_go i311_2597 rfl
theorem i311_2599 : insAt 311 2599 = some (.aload_n 2, 1, (0, 0, 0, 0), 0) := rfl
theorem s311_2599 {c : Nat → List AV → SS → Option Out} {l0 l1 l3 l4 l5 l6 l7 : Option AV} {o : OId} {L2 : List (Nat × AV)} {St : List AV} {S : SS} : ev c 311 2599 [l0, l1, some (aR o), l3, l4, l5, l6, l7] L2 St S = ev c 311 2600 [l0, l1, some (aR o), l3, l4, l5, l6, l7] L2 (aR o :: St) S := ev_go i311_2599 rfl
theorem i311_2600 : insAt 311 2600 = some (.aload_n 0, 1, (0, 0, 0, 0), 0) := rfl
theorem s311_2600 {c : Nat → List AV → SS → Option Out} {l1 l2 l3 l4 l5 l6 l7 : Option AV} {o : OId} {L2 : List (Nat × AV)} {St : List AV} {S : SS} : ev c 311 2600 [some (aR o), l1, l2, l3, l4, l5, l6, l7] L2 St S = ev c 311 2601 [some (aR o), l1, l2, l3, l4, l5, l6, l7] L2 (aR o :: St) S := ev_go i311_2600 rfl
theorem i311_2601 : insAt 311 2601 = some (.iload 5, 2, (0, 0, 0, 0), 0) := rfl
theorem s311_2601 {c : Nat → List AV → SS → Option Out} {l0 l1 l2 l3 l4 l6 l7 : Option AV} {x : Int32} {L2 : List (Nat × AV)} {St : List AV} {S : SS} : ev c 311 2601 [l0, l1, l2, l3, l4, some (aI x), l6, l7] L2 St S = ev c 311 2603 [l0, l1, l2, l3, l4, some (aI x), l6, l7] L2 (aI x :: St) S := ev_go i311_2601 rfl
theorem i311_2603 : insAt 311 2603 = some (.iconst 1, 1, (0, 0, 0, 0), 0) := rfl
theorem s311_2603 {c : Nat → List AV → SS → Option Out} {l0 l1 l2 l3 l4 l5 l6 l7 : Option AV} {L2 : List (Nat × AV)} {St : List AV} {S : SS} : ev c 311 2603 [l0, l1, l2, l3, l4, l5, l6, l7] L2 St S = ev c 311 2604 [l0, l1, l2, l3, l4, l5, l6, l7] L2 (aI 1 :: St) S := ev_go i311_2603 rfl
theorem i311_2604 : insAt 311 2604 = some (.iadd, 1, (0, 0, 0, 0), 0) := rfl
theorem s311_2604 {c : Nat → List AV → SS → Option Out} {l0 l1 l2 l3 l4 l5 l6 l7 : Option AV} {x y : Int32} {L2 : List (Nat × AV)} {St : List AV} {S : SS} : ev c 311 2604 [l0, l1, l2, l3, l4, l5, l6, l7] L2 (aI y :: aI x :: St) S = ev c 311 2605 [l0, l1, l2, l3, l4, l5, l6, l7] L2 (aI (x + y) :: St) S := ev_go i311_2604 rfl
theorem i311_2605 : insAt 311 2605 = some (.iaload, 1, (0, 0, 0, 0), 0) := rfl
theorem s311_2605 {c : Nat → List AV → SS → Option Out} {l0 l1 l2 l3 l4 l5 l6 l7 : Option AV} {i : Int32} {o : OId} {L2 : List (Nat × AV)} {St : List AV} {S : SS} : ev c 311 2605 [l0, l1, l2, l3, l4, l5, l6, l7] L2 (aI i :: aR o :: St) S = kI o i (ev c 311 2606 [l0, l1, l2, l3, l4, l5, l6, l7] L2 (aI (agI S o i.toNatClampNeg) :: St) S) := ev_iaload i311_2605
theorem i311_2606 : insAt 311 2606 = some (.invokevirtual 307, 3, (303, 1, 2, 12), 533) := rfl
theorem s311_2606 {c : Nat → List AV → SS → Option Out} {l0 l1 l2 l3 l4 l5 l6 l7 : Option AV} {a0 : Int32} {j t : Nat} {L2 : List (Nat × AV)} {S : SS} : ev c 311 2606 [l0, l1, l2, l3, l4, l5, l6, l7] L2 [aI a0, aR (12, j, t)] S = ck (c 303 [aR (12, j, t), aI a0] S) (fun v S' => ev c 311 2609 [l0, l1, l2, l3, l4, l5, l6, l7] L2 (v.toList ++ []) S') := ev_call i311_2606 rfl
theorem i311_2609 : insAt 311 2609 = some (.istore 7, 2, (0, 0, 0, 0), 0) := rfl
theorem s311_2609 {c : Nat → List AV → SS → Option Out} {l0 l1 l2 l3 l4 l5 l6 l7 : Option AV} {x : Int32} {L2 : List (Nat × AV)} {St : List AV} {S : SS} : ev c 311 2609 [l0, l1, l2, l3, l4, l5, l6, l7] L2 (aI x :: St) S = ev c 311 2611 [l0, l1, l2, l3, l4, l5, l6, some (aI x)] (kil L2 7) St S := ev_go i311_2609 rfl
theorem i311_2611 : insAt 311 2611 = some (.aload_n 2, 1, (0, 0, 0, 0), 0) := rfl
theorem s311_2611 {c : Nat → List AV → SS → Option Out} {l0 l1 l3 l4 l5 l6 l7 : Option AV} {o : OId} {L2 : List (Nat × AV)} {St : List AV} {S : SS} : ev c 311 2611 [l0, l1, some (aR o), l3, l4, l5, l6, l7] L2 St S = ev c 311 2612 [l0, l1, some (aR o), l3, l4, l5, l6, l7] L2 (aR o :: St) S := ev_go i311_2611 rfl
theorem i311_2612 : insAt 311 2612 = some (.invokevirtual 149, 3, (215, 0, 2, 12), 441) := rfl
theorem s311_2612 {c : Nat → List AV → SS → Option Out} {l0 l1 l2 l3 l4 l5 l6 l7 : Option AV} {j t : Nat} {L2 : List (Nat × AV)} {S : SS} : ev c 311 2612 [l0, l1, l2, l3, l4, l5, l6, l7] L2 [aR (12, j, t)] S = ck (c 215 [aR (12, j, t)] S) (fun v S' => ev c 311 2615 [l0, l1, l2, l3, l4, l5, l6, l7] L2 (v.toList ++ []) S') := ev_call i311_2612 rfl
theorem i311_2615 : insAt 311 2615 = some (.iload 6, 2, (0, 0, 0, 0), 0) := rfl
theorem s311_2615 {c : Nat → List AV → SS → Option Out} {l0 l1 l2 l3 l4 l5 l7 : Option AV} {x : Int32} {L2 : List (Nat × AV)} {St : List AV} {S : SS} : ev c 311 2615 [l0, l1, l2, l3, l4, l5, some (aI x), l7] L2 St S = ev c 311 2617 [l0, l1, l2, l3, l4, l5, some (aI x), l7] L2 (aI x :: St) S := ev_go i311_2615 rfl
theorem i311_2617 : insAt 311 2617 = some (.if_icmp .eq 5, 3, (0, 0, 0, 0), 0) := rfl
theorem s311_2617 {c : Nat → List AV → SS → Option Out} {l0 l1 l2 l3 l4 l5 l6 l7 : Option AV} {x y : Int32} {L2 : List (Nat × AV)} {St : List AV} {S : SS} : ev c 311 2617 [l0, l1, l2, l3, l4, l5, l6, l7] L2 (aI y :: aI x :: St) S = if x = y then ev c 311 2622 [l0, l1, l2, l3, l4, l5, l6, l7] L2 St S else ev c 311 2620 [l0, l1, l2, l3, l4, l5, l6, l7] L2 St S := ev_br i311_2617 rfl
theorem i311_2620 : insAt 311 2620 = some (.iconst 0, 1, (0, 0, 0, 0), 0) := rfl
theorem s311_2620 {c : Nat → List AV → SS → Option Out} {l0 l1 l2 l3 l4 l5 l6 l7 : Option AV} {L2 : List (Nat × AV)} {St : List AV} {S : SS} : ev c 311 2620 [l0, l1, l2, l3, l4, l5, l6, l7] L2 St S = ev c 311 2621 [l0, l1, l2, l3, l4, l5, l6, l7] L2 (aI 0 :: St) S := ev_go i311_2620 rfl
theorem i311_2621 : insAt 311 2621 = some (.ireturn, 1, (0, 0, 0, 0), 0) := rfl
theorem s311_2621 {c : Nat → List AV → SS → Option Out} {l0 l1 l2 l3 l4 l5 l6 l7 : Option AV} {x : Int32} {L2 : List (Nat × AV)} {S : SS} : ev c 311 2621 [l0, l1, l2, l3, l4, l5, l6, l7] L2 [aI x] S = if x = 0 ∨ x = 1 then some (.inl (some (aI x)), S) else none := ev_rt i311_2621 rfl
theorem i311_2622 : insAt 311 2622 = some (.iload 6, 2, (0, 0, 0, 0), 0) := rfl
theorem s311_2622 {c : Nat → List AV → SS → Option Out} {l0 l1 l2 l3 l4 l5 l7 : Option AV} {x : Int32} {L2 : List (Nat × AV)} {St : List AV} {S : SS} : ev c 311 2622 [l0, l1, l2, l3, l4, l5, some (aI x), l7] L2 St S = ev c 311 2624 [l0, l1, l2, l3, l4, l5, some (aI x), l7] L2 (aI x :: St) S := ev_go i311_2622 rfl
theorem i311_2624 : insAt 311 2624 = some (.ifCond .ne 15, 3, (0, 0, 0, 0), 0) := rfl
theorem s311_2624 {c : Nat → List AV → SS → Option Out} {l0 l1 l2 l3 l4 l5 l6 l7 : Option AV} {x : Int32} {L2 : List (Nat × AV)} {St : List AV} {S : SS} : ev c 311 2624 [l0, l1, l2, l3, l4, l5, l6, l7] L2 (aI x :: St) S = if x = 0 then ev c 311 2627 [l0, l1, l2, l3, l4, l5, l6, l7] L2 St S else ev c 311 2639 [l0, l1, l2, l3, l4, l5, l6, l7] L2 St S := (ev_br i311_2624 rfl).trans (ite_not _ _ _)
theorem i311_2627 : insAt 311 2627 = some (.aload_n 3, 1, (0, 0, 0, 0), 0) := rfl
theorem s311_2627 {c : Nat → List AV → SS → Option Out} {l0 l1 l2 l4 l5 l6 l7 : Option AV} {o : OId} {L2 : List (Nat × AV)} {St : List AV} {S : SS} : ev c 311 2627 [l0, l1, l2, some (aR o), l4, l5, l6, l7] L2 St S = ev c 311 2628 [l0, l1, l2, some (aR o), l4, l5, l6, l7] L2 (aR o :: St) S := ev_go i311_2627 rfl
theorem i311_2628 : insAt 311 2628 = some (.iconst 0, 1, (0, 0, 0, 0), 0) := rfl
theorem s311_2628 {c : Nat → List AV → SS → Option Out} {l0 l1 l2 l3 l4 l5 l6 l7 : Option AV} {L2 : List (Nat × AV)} {St : List AV} {S : SS} : ev c 311 2628 [l0, l1, l2, l3, l4, l5, l6, l7] L2 St S = ev c 311 2629 [l0, l1, l2, l3, l4, l5, l6, l7] L2 (aI 0 :: St) S := ev_go i311_2628 rfl
theorem i311_2629 : insAt 311 2629 = some (.laload, 1, (0, 0, 0, 0), 0) := rfl
theorem s311_2629 {c : Nat → List AV → SS → Option Out} {l0 l1 l2 l3 l4 l5 l6 l7 : Option AV} {i : Int32} {o : OId} {L2 : List (Nat × AV)} {St : List AV} {S : SS} : ev c 311 2629 [l0, l1, l2, l3, l4, l5, l6, l7] L2 (aI i :: aR o :: St) S = kJ o i (ev c 311 2630 [l0, l1, l2, l3, l4, l5, l6, l7] L2 (aL (toL (S.2.1 o i.toNatClampNeg)) :: St) S) := ev_laload i311_2629
theorem i311_2630 : insAt 311 2630 = some (.iload 7, 2, (0, 0, 0, 0), 0) := rfl
theorem s311_2630 {c : Nat → List AV → SS → Option Out} {l0 l1 l2 l3 l4 l5 l6 : Option AV} {x : Int32} {L2 : List (Nat × AV)} {St : List AV} {S : SS} : ev c 311 2630 [l0, l1, l2, l3, l4, l5, l6, some (aI x)] L2 St S = ev c 311 2632 [l0, l1, l2, l3, l4, l5, l6, some (aI x)] L2 (aI x :: St) S := ev_go i311_2630 rfl
theorem i311_2632 : insAt 311 2632 = some (.i2l, 1, (0, 0, 0, 0), 0) := rfl
theorem s311_2632 {c : Nat → List AV → SS → Option Out} {l0 l1 l2 l3 l4 l5 l6 l7 : Option AV} {x : Int32} {L2 : List (Nat × AV)} {St : List AV} {S : SS} : ev c 311 2632 [l0, l1, l2, l3, l4, l5, l6, l7] L2 (aI x :: St) S = ev c 311 2633 [l0, l1, l2, l3, l4, l5, l6, l7] L2 (aL x.toInt64 :: St) S := ev_go i311_2632 rfl
theorem i311_2633 : insAt 311 2633 = some (.lcmp, 1, (0, 0, 0, 0), 0) := rfl
theorem s311_2633 {c : Nat → List AV → SS → Option Out} {l0 l1 l2 l3 l4 l5 l6 l7 : Option AV} {x y : Int64} {L2 : List (Nat × AV)} {St : List AV} {S : SS} : ev c 311 2633 [l0, l1, l2, l3, l4, l5, l6, l7] L2 (aL y :: aL x :: St) S = ev c 311 2634 [l0, l1, l2, l3, l4, l5, l6, l7] L2 (aI (if x < y then -1 else if x = y then 0 else 1) :: St) S := ev_go i311_2633 rfl
theorem i311_2634 : insAt 311 2634 = some (.ifCond .eq 5, 3, (0, 0, 0, 0), 0) := rfl
theorem s311_2634 {c : Nat → List AV → SS → Option Out} {l0 l1 l2 l3 l4 l5 l6 l7 : Option AV} {x : Int32} {L2 : List (Nat × AV)} {St : List AV} {S : SS} : ev c 311 2634 [l0, l1, l2, l3, l4, l5, l6, l7] L2 (aI x :: St) S = if x = 0 then ev c 311 2639 [l0, l1, l2, l3, l4, l5, l6, l7] L2 St S else ev c 311 2637 [l0, l1, l2, l3, l4, l5, l6, l7] L2 St S := ev_br i311_2634 rfl
theorem i311_2637 : insAt 311 2637 = some (.iconst 0, 1, (0, 0, 0, 0), 0) := rfl
theorem s311_2637 {c : Nat → List AV → SS → Option Out} {l0 l1 l2 l3 l4 l5 l6 l7 : Option AV} {L2 : List (Nat × AV)} {St : List AV} {S : SS} : ev c 311 2637 [l0, l1, l2, l3, l4, l5, l6, l7] L2 St S = ev c 311 2638 [l0, l1, l2, l3, l4, l5, l6, l7] L2 (aI 0 :: St) S := ev_go i311_2637 rfl
theorem i311_2638 : insAt 311 2638 = some (.ireturn, 1, (0, 0, 0, 0), 0) := rfl
theorem s311_2638 {c : Nat → List AV → SS → Option Out} {l0 l1 l2 l3 l4 l5 l6 l7 : Option AV} {x : Int32} {L2 : List (Nat × AV)} {S : SS} : ev c 311 2638 [l0, l1, l2, l3, l4, l5, l6, l7] L2 [aI x] S = if x = 0 ∨ x = 1 then some (.inl (some (aI x)), S) else none := ev_rt i311_2638 rfl
theorem i311_2639 : insAt 311 2639 = some (.goto 160, 3, (0, 0, 0, 0), 0) := rfl
theorem s311_2639 {c : Nat → List AV → SS → Option Out} {l0 l1 l2 l3 l4 l5 l6 l7 : Option AV} {L2 : List (Nat × AV)} {St : List AV} {S : SS} : ev c 311 2639 [l0, l1, l2, l3, l4, l5, l6, l7] L2 St S = ev c 311 2799 [l0, l1, l2, l3, l4, l5, l6, l7] L2 St S := ev_go i311_2639 rfl
theorem i311_2642 : insAt 311 2642 = some (.aload_n 1, 1, (0, 0, 0, 0), 0) := rfl
theorem s311_2642 {c : Nat → List AV → SS → Option Out} {l0 l2 l3 l4 l5 l6 l7 : Option AV} {o : OId} {L2 : List (Nat × AV)} {St : List AV} {S : SS} : ev c 311 2642 [l0, some (aR o), l2, l3, l4, l5, l6, l7] L2 St S = ev c 311 2643 [l0, some (aR o), l2, l3, l4, l5, l6, l7] L2 (aR o :: St) S := ev_go i311_2642 rfl
theorem i311_2643 : insAt 311 2643 = some (.aload_n 0, 1, (0, 0, 0, 0), 0) := rfl
theorem s311_2643 {c : Nat → List AV → SS → Option Out} {l1 l2 l3 l4 l5 l6 l7 : Option AV} {o : OId} {L2 : List (Nat × AV)} {St : List AV} {S : SS} : ev c 311 2643 [some (aR o), l1, l2, l3, l4, l5, l6, l7] L2 St S = ev c 311 2644 [some (aR o), l1, l2, l3, l4, l5, l6, l7] L2 (aR o :: St) S := ev_go i311_2643 rfl
theorem i311_2644 : insAt 311 2644 = some (.iload 5, 2, (0, 0, 0, 0), 0) := rfl
theorem s311_2644 {c : Nat → List AV → SS → Option Out} {l0 l1 l2 l3 l4 l6 l7 : Option AV} {x : Int32} {L2 : List (Nat × AV)} {St : List AV} {S : SS} : ev c 311 2644 [l0, l1, l2, l3, l4, some (aI x), l6, l7] L2 St S = ev c 311 2646 [l0, l1, l2, l3, l4, some (aI x), l6, l7] L2 (aI x :: St) S := ev_go i311_2644 rfl
theorem i311_2646 : insAt 311 2646 = some (.iconst 1, 1, (0, 0, 0, 0), 0) := rfl
theorem s311_2646 {c : Nat → List AV → SS → Option Out} {l0 l1 l2 l3 l4 l5 l6 l7 : Option AV} {L2 : List (Nat × AV)} {St : List AV} {S : SS} : ev c 311 2646 [l0, l1, l2, l3, l4, l5, l6, l7] L2 St S = ev c 311 2647 [l0, l1, l2, l3, l4, l5, l6, l7] L2 (aI 1 :: St) S := ev_go i311_2646 rfl
theorem i311_2647 : insAt 311 2647 = some (.iadd, 1, (0, 0, 0, 0), 0) := rfl
theorem s311_2647 {c : Nat → List AV → SS → Option Out} {l0 l1 l2 l3 l4 l5 l6 l7 : Option AV} {x y : Int32} {L2 : List (Nat × AV)} {St : List AV} {S : SS} : ev c 311 2647 [l0, l1, l2, l3, l4, l5, l6, l7] L2 (aI y :: aI x :: St) S = ev c 311 2648 [l0, l1, l2, l3, l4, l5, l6, l7] L2 (aI (x + y) :: St) S := ev_go i311_2647 rfl
theorem i311_2648 : insAt 311 2648 = some (.iaload, 1, (0, 0, 0, 0), 0) := rfl
theorem s311_2648 {c : Nat → List AV → SS → Option Out} {l0 l1 l2 l3 l4 l5 l6 l7 : Option AV} {i : Int32} {o : OId} {L2 : List (Nat × AV)} {St : List AV} {S : SS} : ev c 311 2648 [l0, l1, l2, l3, l4, l5, l6, l7] L2 (aI i :: aR o :: St) S = kI o i (ev c 311 2649 [l0, l1, l2, l3, l4, l5, l6, l7] L2 (aI (agI S o i.toNatClampNeg) :: St) S) := ev_iaload i311_2648
theorem i311_2649 : insAt 311 2649 = some (.aload_n 3, 1, (0, 0, 0, 0), 0) := rfl
theorem s311_2649 {c : Nat → List AV → SS → Option Out} {l0 l1 l2 l4 l5 l6 l7 : Option AV} {o : OId} {L2 : List (Nat × AV)} {St : List AV} {S : SS} : ev c 311 2649 [l0, l1, l2, some (aR o), l4, l5, l6, l7] L2 St S = ev c 311 2650 [l0, l1, l2, some (aR o), l4, l5, l6, l7] L2 (aR o :: St) S := ev_go i311_2649 rfl
theorem i311_2650 : insAt 311 2650 = some (.invokestatic 308, 3, (204, 3, 0, 0), 534) := rfl
theorem s311_2650 {c : Nat → List AV → SS → Option Out} {l0 l1 l2 l3 l4 l5 l6 l7 : Option AV} {a0 : OId} {a1 : Int32} {a2 : OId} {L2 : List (Nat × AV)} {S : SS} : ev c 311 2650 [l0, l1, l2, l3, l4, l5, l6, l7] L2 [aR a2, aI a1, aR a0] S = ck (c 204 [aR a0, aI a1, aR a2] S) (fun v S' => ev c 311 2653 [l0, l1, l2, l3, l4, l5, l6, l7] L2 (v.toList ++ []) S') := ev_call i311_2650 rfl
theorem i311_2653 : insAt 311 2653 = some (.istore 6, 2, (0, 0, 0, 0), 0) := rfl
theorem s311_2653 {c : Nat → List AV → SS → Option Out} {l0 l1 l2 l3 l4 l5 l6 l7 : Option AV} {x : Int32} {L2 : List (Nat × AV)} {St : List AV} {S : SS} : ev c 311 2653 [l0, l1, l2, l3, l4, l5, l6, l7] L2 (aI x :: St) S = ev c 311 2655 [l0, l1, l2, l3, l4, l5, some (aI x), l7] (kil L2 6) St S := ev_go i311_2653 rfl
theorem i311_2655 : insAt 311 2655 = some (.aload_n 2, 1, (0, 0, 0, 0), 0) := rfl
theorem s311_2655 {c : Nat → List AV → SS → Option Out} {l0 l1 l3 l4 l5 l6 l7 : Option AV} {o : OId} {L2 : List (Nat × AV)} {St : List AV} {S : SS} : ev c 311 2655 [l0, l1, some (aR o), l3, l4, l5, l6, l7] L2 St S = ev c 311 2656 [l0, l1, some (aR o), l3, l4, l5, l6, l7] L2 (aR o :: St) S := ev_go i311_2655 rfl
theorem i311_2656 : insAt 311 2656 = some (.aload_n 0, 1, (0, 0, 0, 0), 0) := rfl
theorem s311_2656 {c : Nat → List AV → SS → Option Out} {l1 l2 l3 l4 l5 l6 l7 : Option AV} {o : OId} {L2 : List (Nat × AV)} {St : List AV} {S : SS} : ev c 311 2656 [some (aR o), l1, l2, l3, l4, l5, l6, l7] L2 St S = ev c 311 2657 [some (aR o), l1, l2, l3, l4, l5, l6, l7] L2 (aR o :: St) S := ev_go i311_2656 rfl
theorem i311_2657 : insAt 311 2657 = some (.iload 5, 2, (0, 0, 0, 0), 0) := rfl
theorem s311_2657 {c : Nat → List AV → SS → Option Out} {l0 l1 l2 l3 l4 l6 l7 : Option AV} {x : Int32} {L2 : List (Nat × AV)} {St : List AV} {S : SS} : ev c 311 2657 [l0, l1, l2, l3, l4, some (aI x), l6, l7] L2 St S = ev c 311 2659 [l0, l1, l2, l3, l4, some (aI x), l6, l7] L2 (aI x :: St) S := ev_go i311_2657 rfl
theorem i311_2659 : insAt 311 2659 = some (.iconst 1, 1, (0, 0, 0, 0), 0) := rfl
theorem s311_2659 {c : Nat → List AV → SS → Option Out} {l0 l1 l2 l3 l4 l5 l6 l7 : Option AV} {L2 : List (Nat × AV)} {St : List AV} {S : SS} : ev c 311 2659 [l0, l1, l2, l3, l4, l5, l6, l7] L2 St S = ev c 311 2660 [l0, l1, l2, l3, l4, l5, l6, l7] L2 (aI 1 :: St) S := ev_go i311_2659 rfl
theorem i311_2660 : insAt 311 2660 = some (.iadd, 1, (0, 0, 0, 0), 0) := rfl
theorem s311_2660 {c : Nat → List AV → SS → Option Out} {l0 l1 l2 l3 l4 l5 l6 l7 : Option AV} {x y : Int32} {L2 : List (Nat × AV)} {St : List AV} {S : SS} : ev c 311 2660 [l0, l1, l2, l3, l4, l5, l6, l7] L2 (aI y :: aI x :: St) S = ev c 311 2661 [l0, l1, l2, l3, l4, l5, l6, l7] L2 (aI (x + y) :: St) S := ev_go i311_2660 rfl
theorem i311_2661 : insAt 311 2661 = some (.iaload, 1, (0, 0, 0, 0), 0) := rfl
theorem s311_2661 {c : Nat → List AV → SS → Option Out} {l0 l1 l2 l3 l4 l5 l6 l7 : Option AV} {i : Int32} {o : OId} {L2 : List (Nat × AV)} {St : List AV} {S : SS} : ev c 311 2661 [l0, l1, l2, l3, l4, l5, l6, l7] L2 (aI i :: aR o :: St) S = kI o i (ev c 311 2662 [l0, l1, l2, l3, l4, l5, l6, l7] L2 (aI (agI S o i.toNatClampNeg) :: St) S) := ev_iaload i311_2661
theorem i311_2662 : insAt 311 2662 = some (.invokevirtual 310, 3, (304, 1, 2, 12), 535) := rfl
theorem s311_2662 {c : Nat → List AV → SS → Option Out} {l0 l1 l2 l3 l4 l5 l6 l7 : Option AV} {a0 : Int32} {j t : Nat} {L2 : List (Nat × AV)} {S : SS} : ev c 311 2662 [l0, l1, l2, l3, l4, l5, l6, l7] L2 [aI a0, aR (12, j, t)] S = ck (c 304 [aR (12, j, t), aI a0] S) (fun v S' => ev c 311 2665 [l0, l1, l2, l3, l4, l5, l6, l7] L2 (v.toList ++ []) S') := ev_call i311_2662 rfl
theorem i311_2665 : insAt 311 2665 = some (.istore 7, 2, (0, 0, 0, 0), 0) := rfl
theorem s311_2665 {c : Nat → List AV → SS → Option Out} {l0 l1 l2 l3 l4 l5 l6 l7 : Option AV} {x : Int32} {L2 : List (Nat × AV)} {St : List AV} {S : SS} : ev c 311 2665 [l0, l1, l2, l3, l4, l5, l6, l7] L2 (aI x :: St) S = ev c 311 2667 [l0, l1, l2, l3, l4, l5, l6, some (aI x)] (kil L2 7) St S := ev_go i311_2665 rfl
theorem i311_2667 : insAt 311 2667 = some (.aload_n 2, 1, (0, 0, 0, 0), 0) := rfl
theorem s311_2667 {c : Nat → List AV → SS → Option Out} {l0 l1 l3 l4 l5 l6 l7 : Option AV} {o : OId} {L2 : List (Nat × AV)} {St : List AV} {S : SS} : ev c 311 2667 [l0, l1, some (aR o), l3, l4, l5, l6, l7] L2 St S = ev c 311 2668 [l0, l1, some (aR o), l3, l4, l5, l6, l7] L2 (aR o :: St) S := ev_go i311_2667 rfl
theorem i311_2668 : insAt 311 2668 = some (.invokevirtual 149, 3, (215, 0, 2, 12), 441) := rfl
theorem s311_2668 {c : Nat → List AV → SS → Option Out} {l0 l1 l2 l3 l4 l5 l6 l7 : Option AV} {j t : Nat} {L2 : List (Nat × AV)} {S : SS} : ev c 311 2668 [l0, l1, l2, l3, l4, l5, l6, l7] L2 [aR (12, j, t)] S = ck (c 215 [aR (12, j, t)] S) (fun v S' => ev c 311 2671 [l0, l1, l2, l3, l4, l5, l6, l7] L2 (v.toList ++ []) S') := ev_call i311_2668 rfl
theorem i311_2671 : insAt 311 2671 = some (.iload 6, 2, (0, 0, 0, 0), 0) := rfl
theorem s311_2671 {c : Nat → List AV → SS → Option Out} {l0 l1 l2 l3 l4 l5 l7 : Option AV} {x : Int32} {L2 : List (Nat × AV)} {St : List AV} {S : SS} : ev c 311 2671 [l0, l1, l2, l3, l4, l5, some (aI x), l7] L2 St S = ev c 311 2673 [l0, l1, l2, l3, l4, l5, some (aI x), l7] L2 (aI x :: St) S := ev_go i311_2671 rfl
theorem i311_2673 : insAt 311 2673 = some (.if_icmp .eq 5, 3, (0, 0, 0, 0), 0) := rfl
theorem s311_2673 {c : Nat → List AV → SS → Option Out} {l0 l1 l2 l3 l4 l5 l6 l7 : Option AV} {x y : Int32} {L2 : List (Nat × AV)} {St : List AV} {S : SS} : ev c 311 2673 [l0, l1, l2, l3, l4, l5, l6, l7] L2 (aI y :: aI x :: St) S = if x = y then ev c 311 2678 [l0, l1, l2, l3, l4, l5, l6, l7] L2 St S else ev c 311 2676 [l0, l1, l2, l3, l4, l5, l6, l7] L2 St S := ev_br i311_2673 rfl
theorem i311_2676 : insAt 311 2676 = some (.iconst 0, 1, (0, 0, 0, 0), 0) := rfl
theorem s311_2676 {c : Nat → List AV → SS → Option Out} {l0 l1 l2 l3 l4 l5 l6 l7 : Option AV} {L2 : List (Nat × AV)} {St : List AV} {S : SS} : ev c 311 2676 [l0, l1, l2, l3, l4, l5, l6, l7] L2 St S = ev c 311 2677 [l0, l1, l2, l3, l4, l5, l6, l7] L2 (aI 0 :: St) S := ev_go i311_2676 rfl
theorem i311_2677 : insAt 311 2677 = some (.ireturn, 1, (0, 0, 0, 0), 0) := rfl
theorem s311_2677 {c : Nat → List AV → SS → Option Out} {l0 l1 l2 l3 l4 l5 l6 l7 : Option AV} {x : Int32} {L2 : List (Nat × AV)} {S : SS} : ev c 311 2677 [l0, l1, l2, l3, l4, l5, l6, l7] L2 [aI x] S = if x = 0 ∨ x = 1 then some (.inl (some (aI x)), S) else none := ev_rt i311_2677 rfl
theorem i311_2678 : insAt 311 2678 = some (.iload 6, 2, (0, 0, 0, 0), 0) := rfl
theorem s311_2678 {c : Nat → List AV → SS → Option Out} {l0 l1 l2 l3 l4 l5 l7 : Option AV} {x : Int32} {L2 : List (Nat × AV)} {St : List AV} {S : SS} : ev c 311 2678 [l0, l1, l2, l3, l4, l5, some (aI x), l7] L2 St S = ev c 311 2680 [l0, l1, l2, l3, l4, l5, some (aI x), l7] L2 (aI x :: St) S := ev_go i311_2678 rfl
theorem i311_2680 : insAt 311 2680 = some (.ifCond .ne 15, 3, (0, 0, 0, 0), 0) := rfl
theorem s311_2680 {c : Nat → List AV → SS → Option Out} {l0 l1 l2 l3 l4 l5 l6 l7 : Option AV} {x : Int32} {L2 : List (Nat × AV)} {St : List AV} {S : SS} : ev c 311 2680 [l0, l1, l2, l3, l4, l5, l6, l7] L2 (aI x :: St) S = if x = 0 then ev c 311 2683 [l0, l1, l2, l3, l4, l5, l6, l7] L2 St S else ev c 311 2695 [l0, l1, l2, l3, l4, l5, l6, l7] L2 St S := (ev_br i311_2680 rfl).trans (ite_not _ _ _)
theorem i311_2683 : insAt 311 2683 = some (.aload_n 3, 1, (0, 0, 0, 0), 0) := rfl
theorem s311_2683 {c : Nat → List AV → SS → Option Out} {l0 l1 l2 l4 l5 l6 l7 : Option AV} {o : OId} {L2 : List (Nat × AV)} {St : List AV} {S : SS} : ev c 311 2683 [l0, l1, l2, some (aR o), l4, l5, l6, l7] L2 St S = ev c 311 2684 [l0, l1, l2, some (aR o), l4, l5, l6, l7] L2 (aR o :: St) S := ev_go i311_2683 rfl
theorem i311_2684 : insAt 311 2684 = some (.iconst 0, 1, (0, 0, 0, 0), 0) := rfl
theorem s311_2684 {c : Nat → List AV → SS → Option Out} {l0 l1 l2 l3 l4 l5 l6 l7 : Option AV} {L2 : List (Nat × AV)} {St : List AV} {S : SS} : ev c 311 2684 [l0, l1, l2, l3, l4, l5, l6, l7] L2 St S = ev c 311 2685 [l0, l1, l2, l3, l4, l5, l6, l7] L2 (aI 0 :: St) S := ev_go i311_2684 rfl
theorem i311_2685 : insAt 311 2685 = some (.laload, 1, (0, 0, 0, 0), 0) := rfl
theorem s311_2685 {c : Nat → List AV → SS → Option Out} {l0 l1 l2 l3 l4 l5 l6 l7 : Option AV} {i : Int32} {o : OId} {L2 : List (Nat × AV)} {St : List AV} {S : SS} : ev c 311 2685 [l0, l1, l2, l3, l4, l5, l6, l7] L2 (aI i :: aR o :: St) S = kJ o i (ev c 311 2686 [l0, l1, l2, l3, l4, l5, l6, l7] L2 (aL (toL (S.2.1 o i.toNatClampNeg)) :: St) S) := ev_laload i311_2685
theorem i311_2686 : insAt 311 2686 = some (.iload 7, 2, (0, 0, 0, 0), 0) := rfl
theorem s311_2686 {c : Nat → List AV → SS → Option Out} {l0 l1 l2 l3 l4 l5 l6 : Option AV} {x : Int32} {L2 : List (Nat × AV)} {St : List AV} {S : SS} : ev c 311 2686 [l0, l1, l2, l3, l4, l5, l6, some (aI x)] L2 St S = ev c 311 2688 [l0, l1, l2, l3, l4, l5, l6, some (aI x)] L2 (aI x :: St) S := ev_go i311_2686 rfl
theorem i311_2688 : insAt 311 2688 = some (.i2l, 1, (0, 0, 0, 0), 0) := rfl
theorem s311_2688 {c : Nat → List AV → SS → Option Out} {l0 l1 l2 l3 l4 l5 l6 l7 : Option AV} {x : Int32} {L2 : List (Nat × AV)} {St : List AV} {S : SS} : ev c 311 2688 [l0, l1, l2, l3, l4, l5, l6, l7] L2 (aI x :: St) S = ev c 311 2689 [l0, l1, l2, l3, l4, l5, l6, l7] L2 (aL x.toInt64 :: St) S := ev_go i311_2688 rfl
theorem i311_2689 : insAt 311 2689 = some (.lcmp, 1, (0, 0, 0, 0), 0) := rfl
theorem s311_2689 {c : Nat → List AV → SS → Option Out} {l0 l1 l2 l3 l4 l5 l6 l7 : Option AV} {x y : Int64} {L2 : List (Nat × AV)} {St : List AV} {S : SS} : ev c 311 2689 [l0, l1, l2, l3, l4, l5, l6, l7] L2 (aL y :: aL x :: St) S = ev c 311 2690 [l0, l1, l2, l3, l4, l5, l6, l7] L2 (aI (if x < y then -1 else if x = y then 0 else 1) :: St) S := ev_go i311_2689 rfl
theorem i311_2690 : insAt 311 2690 = some (.ifCond .eq 5, 3, (0, 0, 0, 0), 0) := rfl
theorem s311_2690 {c : Nat → List AV → SS → Option Out} {l0 l1 l2 l3 l4 l5 l6 l7 : Option AV} {x : Int32} {L2 : List (Nat × AV)} {St : List AV} {S : SS} : ev c 311 2690 [l0, l1, l2, l3, l4, l5, l6, l7] L2 (aI x :: St) S = if x = 0 then ev c 311 2695 [l0, l1, l2, l3, l4, l5, l6, l7] L2 St S else ev c 311 2693 [l0, l1, l2, l3, l4, l5, l6, l7] L2 St S := ev_br i311_2690 rfl
theorem i311_2693 : insAt 311 2693 = some (.iconst 0, 1, (0, 0, 0, 0), 0) := rfl
theorem s311_2693 {c : Nat → List AV → SS → Option Out} {l0 l1 l2 l3 l4 l5 l6 l7 : Option AV} {L2 : List (Nat × AV)} {St : List AV} {S : SS} : ev c 311 2693 [l0, l1, l2, l3, l4, l5, l6, l7] L2 St S = ev c 311 2694 [l0, l1, l2, l3, l4, l5, l6, l7] L2 (aI 0 :: St) S := ev_go i311_2693 rfl
theorem i311_2694 : insAt 311 2694 = some (.ireturn, 1, (0, 0, 0, 0), 0) := rfl
theorem s311_2694 {c : Nat → List AV → SS → Option Out} {l0 l1 l2 l3 l4 l5 l6 l7 : Option AV} {x : Int32} {L2 : List (Nat × AV)} {S : SS} : ev c 311 2694 [l0, l1, l2, l3, l4, l5, l6, l7] L2 [aI x] S = if x = 0 ∨ x = 1 then some (.inl (some (aI x)), S) else none := ev_rt i311_2694 rfl
theorem i311_2695 : insAt 311 2695 = some (.goto 104, 3, (0, 0, 0, 0), 0) := rfl
theorem s311_2695 {c : Nat → List AV → SS → Option Out} {l0 l1 l2 l3 l4 l5 l6 l7 : Option AV} {L2 : List (Nat × AV)} {St : List AV} {S : SS} : ev c 311 2695 [l0, l1, l2, l3, l4, l5, l6, l7] L2 St S = ev c 311 2799 [l0, l1, l2, l3, l4, l5, l6, l7] L2 St S := ev_go i311_2695 rfl
theorem i311_2698 : insAt 311 2698 = some (.aload_n 1, 1, (0, 0, 0, 0), 0) := rfl
theorem s311_2698 {c : Nat → List AV → SS → Option Out} {l0 l2 l3 l4 l5 l6 l7 : Option AV} {o : OId} {L2 : List (Nat × AV)} {St : List AV} {S : SS} : ev c 311 2698 [l0, some (aR o), l2, l3, l4, l5, l6, l7] L2 St S = ev c 311 2699 [l0, some (aR o), l2, l3, l4, l5, l6, l7] L2 (aR o :: St) S := ev_go i311_2698 rfl
theorem i311_2699 : insAt 311 2699 = some (.aload_n 3, 1, (0, 0, 0, 0), 0) := rfl
theorem s311_2699 {c : Nat → List AV → SS → Option Out} {l0 l1 l2 l4 l5 l6 l7 : Option AV} {o : OId} {L2 : List (Nat × AV)} {St : List AV} {S : SS} : ev c 311 2699 [l0, l1, l2, some (aR o), l4, l5, l6, l7] L2 St S = ev c 311 2700 [l0, l1, l2, some (aR o), l4, l5, l6, l7] L2 (aR o :: St) S := ev_go i311_2699 rfl
theorem i311_2700 : insAt 311 2700 = some (.invokestatic 311, 3, (208, 2, 0, 0), 536) := rfl
theorem s311_2700 {c : Nat → List AV → SS → Option Out} {l0 l1 l2 l3 l4 l5 l6 l7 : Option AV} {a0 : OId} {a1 : OId} {L2 : List (Nat × AV)} {S : SS} : ev c 311 2700 [l0, l1, l2, l3, l4, l5, l6, l7] L2 [aR a1, aR a0] S = ck (c 208 [aR a0, aR a1] S) (fun v S' => ev c 311 2703 [l0, l1, l2, l3, l4, l5, l6, l7] L2 (v.toList ++ []) S') := ev_call i311_2700 rfl
theorem i311_2703 : insAt 311 2703 = some (.istore 6, 2, (0, 0, 0, 0), 0) := rfl
theorem s311_2703 {c : Nat → List AV → SS → Option Out} {l0 l1 l2 l3 l4 l5 l6 l7 : Option AV} {x : Int32} {L2 : List (Nat × AV)} {St : List AV} {S : SS} : ev c 311 2703 [l0, l1, l2, l3, l4, l5, l6, l7] L2 (aI x :: St) S = ev c 311 2705 [l0, l1, l2, l3, l4, l5, some (aI x), l7] (kil L2 6) St S := ev_go i311_2703 rfl
theorem i311_2705 : insAt 311 2705 = some (.aload_n 2, 1, (0, 0, 0, 0), 0) := rfl
theorem s311_2705 {c : Nat → List AV → SS → Option Out} {l0 l1 l3 l4 l5 l6 l7 : Option AV} {o : OId} {L2 : List (Nat × AV)} {St : List AV} {S : SS} : ev c 311 2705 [l0, l1, some (aR o), l3, l4, l5, l6, l7] L2 St S = ev c 311 2706 [l0, l1, some (aR o), l3, l4, l5, l6, l7] L2 (aR o :: St) S := ev_go i311_2705 rfl
theorem i311_2706 : insAt 311 2706 = some (.invokevirtual 313, 3, (308, 0, 2, 12), 537) := rfl
theorem s311_2706 {c : Nat → List AV → SS → Option Out} {l0 l1 l2 l3 l4 l5 l6 l7 : Option AV} {j t : Nat} {L2 : List (Nat × AV)} {S : SS} : ev c 311 2706 [l0, l1, l2, l3, l4, l5, l6, l7] L2 [aR (12, j, t)] S = ck (c 308 [aR (12, j, t)] S) (fun v S' => ev c 311 2709 [l0, l1, l2, l3, l4, l5, l6, l7] L2 (v.toList ++ []) S') := ev_call i311_2706 rfl
theorem i311_2709 : insAt 311 2709 = some (.istore 7, 2, (0, 0, 0, 0), 0) := rfl
theorem s311_2709 {c : Nat → List AV → SS → Option Out} {l0 l1 l2 l3 l4 l5 l6 l7 : Option AV} {x : Int32} {L2 : List (Nat × AV)} {St : List AV} {S : SS} : ev c 311 2709 [l0, l1, l2, l3, l4, l5, l6, l7] L2 (aI x :: St) S = ev c 311 2711 [l0, l1, l2, l3, l4, l5, l6, some (aI x)] (kil L2 7) St S := ev_go i311_2709 rfl
theorem i311_2711 : insAt 311 2711 = some (.aload_n 2, 1, (0, 0, 0, 0), 0) := rfl
theorem s311_2711 {c : Nat → List AV → SS → Option Out} {l0 l1 l3 l4 l5 l6 l7 : Option AV} {o : OId} {L2 : List (Nat × AV)} {St : List AV} {S : SS} : ev c 311 2711 [l0, l1, some (aR o), l3, l4, l5, l6, l7] L2 St S = ev c 311 2712 [l0, l1, some (aR o), l3, l4, l5, l6, l7] L2 (aR o :: St) S := ev_go i311_2711 rfl
theorem i311_2712 : insAt 311 2712 = some (.invokevirtual 149, 3, (215, 0, 2, 12), 441) := rfl
theorem s311_2712 {c : Nat → List AV → SS → Option Out} {l0 l1 l2 l3 l4 l5 l6 l7 : Option AV} {j t : Nat} {L2 : List (Nat × AV)} {S : SS} : ev c 311 2712 [l0, l1, l2, l3, l4, l5, l6, l7] L2 [aR (12, j, t)] S = ck (c 215 [aR (12, j, t)] S) (fun v S' => ev c 311 2715 [l0, l1, l2, l3, l4, l5, l6, l7] L2 (v.toList ++ []) S') := ev_call i311_2712 rfl
theorem i311_2715 : insAt 311 2715 = some (.iload 6, 2, (0, 0, 0, 0), 0) := rfl
theorem s311_2715 {c : Nat → List AV → SS → Option Out} {l0 l1 l2 l3 l4 l5 l7 : Option AV} {x : Int32} {L2 : List (Nat × AV)} {St : List AV} {S : SS} : ev c 311 2715 [l0, l1, l2, l3, l4, l5, some (aI x), l7] L2 St S = ev c 311 2717 [l0, l1, l2, l3, l4, l5, some (aI x), l7] L2 (aI x :: St) S := ev_go i311_2715 rfl
theorem i311_2717 : insAt 311 2717 = some (.if_icmp .eq 5, 3, (0, 0, 0, 0), 0) := rfl
theorem s311_2717 {c : Nat → List AV → SS → Option Out} {l0 l1 l2 l3 l4 l5 l6 l7 : Option AV} {x y : Int32} {L2 : List (Nat × AV)} {St : List AV} {S : SS} : ev c 311 2717 [l0, l1, l2, l3, l4, l5, l6, l7] L2 (aI y :: aI x :: St) S = if x = y then ev c 311 2722 [l0, l1, l2, l3, l4, l5, l6, l7] L2 St S else ev c 311 2720 [l0, l1, l2, l3, l4, l5, l6, l7] L2 St S := ev_br i311_2717 rfl
theorem i311_2720 : insAt 311 2720 = some (.iconst 0, 1, (0, 0, 0, 0), 0) := rfl
theorem s311_2720 {c : Nat → List AV → SS → Option Out} {l0 l1 l2 l3 l4 l5 l6 l7 : Option AV} {L2 : List (Nat × AV)} {St : List AV} {S : SS} : ev c 311 2720 [l0, l1, l2, l3, l4, l5, l6, l7] L2 St S = ev c 311 2721 [l0, l1, l2, l3, l4, l5, l6, l7] L2 (aI 0 :: St) S := ev_go i311_2720 rfl
theorem i311_2721 : insAt 311 2721 = some (.ireturn, 1, (0, 0, 0, 0), 0) := rfl
theorem s311_2721 {c : Nat → List AV → SS → Option Out} {l0 l1 l2 l3 l4 l5 l6 l7 : Option AV} {x : Int32} {L2 : List (Nat × AV)} {S : SS} : ev c 311 2721 [l0, l1, l2, l3, l4, l5, l6, l7] L2 [aI x] S = if x = 0 ∨ x = 1 then some (.inl (some (aI x)), S) else none := ev_rt i311_2721 rfl
theorem i311_2722 : insAt 311 2722 = some (.iload 6, 2, (0, 0, 0, 0), 0) := rfl
theorem s311_2722 {c : Nat → List AV → SS → Option Out} {l0 l1 l2 l3 l4 l5 l7 : Option AV} {x : Int32} {L2 : List (Nat × AV)} {St : List AV} {S : SS} : ev c 311 2722 [l0, l1, l2, l3, l4, l5, some (aI x), l7] L2 St S = ev c 311 2724 [l0, l1, l2, l3, l4, l5, some (aI x), l7] L2 (aI x :: St) S := ev_go i311_2722 rfl
theorem i311_2724 : insAt 311 2724 = some (.ifCond .ne 15, 3, (0, 0, 0, 0), 0) := rfl
theorem s311_2724 {c : Nat → List AV → SS → Option Out} {l0 l1 l2 l3 l4 l5 l6 l7 : Option AV} {x : Int32} {L2 : List (Nat × AV)} {St : List AV} {S : SS} : ev c 311 2724 [l0, l1, l2, l3, l4, l5, l6, l7] L2 (aI x :: St) S = if x = 0 then ev c 311 2727 [l0, l1, l2, l3, l4, l5, l6, l7] L2 St S else ev c 311 2739 [l0, l1, l2, l3, l4, l5, l6, l7] L2 St S := (ev_br i311_2724 rfl).trans (ite_not _ _ _)
theorem i311_2727 : insAt 311 2727 = some (.aload_n 3, 1, (0, 0, 0, 0), 0) := rfl
theorem s311_2727 {c : Nat → List AV → SS → Option Out} {l0 l1 l2 l4 l5 l6 l7 : Option AV} {o : OId} {L2 : List (Nat × AV)} {St : List AV} {S : SS} : ev c 311 2727 [l0, l1, l2, some (aR o), l4, l5, l6, l7] L2 St S = ev c 311 2728 [l0, l1, l2, some (aR o), l4, l5, l6, l7] L2 (aR o :: St) S := ev_go i311_2727 rfl
theorem i311_2728 : insAt 311 2728 = some (.iconst 0, 1, (0, 0, 0, 0), 0) := rfl
theorem s311_2728 {c : Nat → List AV → SS → Option Out} {l0 l1 l2 l3 l4 l5 l6 l7 : Option AV} {L2 : List (Nat × AV)} {St : List AV} {S : SS} : ev c 311 2728 [l0, l1, l2, l3, l4, l5, l6, l7] L2 St S = ev c 311 2729 [l0, l1, l2, l3, l4, l5, l6, l7] L2 (aI 0 :: St) S := ev_go i311_2728 rfl
theorem i311_2729 : insAt 311 2729 = some (.laload, 1, (0, 0, 0, 0), 0) := rfl
theorem s311_2729 {c : Nat → List AV → SS → Option Out} {l0 l1 l2 l3 l4 l5 l6 l7 : Option AV} {i : Int32} {o : OId} {L2 : List (Nat × AV)} {St : List AV} {S : SS} : ev c 311 2729 [l0, l1, l2, l3, l4, l5, l6, l7] L2 (aI i :: aR o :: St) S = kJ o i (ev c 311 2730 [l0, l1, l2, l3, l4, l5, l6, l7] L2 (aL (toL (S.2.1 o i.toNatClampNeg)) :: St) S) := ev_laload i311_2729
theorem i311_2730 : insAt 311 2730 = some (.iload 7, 2, (0, 0, 0, 0), 0) := rfl
theorem s311_2730 {c : Nat → List AV → SS → Option Out} {l0 l1 l2 l3 l4 l5 l6 : Option AV} {x : Int32} {L2 : List (Nat × AV)} {St : List AV} {S : SS} : ev c 311 2730 [l0, l1, l2, l3, l4, l5, l6, some (aI x)] L2 St S = ev c 311 2732 [l0, l1, l2, l3, l4, l5, l6, some (aI x)] L2 (aI x :: St) S := ev_go i311_2730 rfl
theorem i311_2732 : insAt 311 2732 = some (.i2l, 1, (0, 0, 0, 0), 0) := rfl
theorem s311_2732 {c : Nat → List AV → SS → Option Out} {l0 l1 l2 l3 l4 l5 l6 l7 : Option AV} {x : Int32} {L2 : List (Nat × AV)} {St : List AV} {S : SS} : ev c 311 2732 [l0, l1, l2, l3, l4, l5, l6, l7] L2 (aI x :: St) S = ev c 311 2733 [l0, l1, l2, l3, l4, l5, l6, l7] L2 (aL x.toInt64 :: St) S := ev_go i311_2732 rfl
theorem i311_2733 : insAt 311 2733 = some (.lcmp, 1, (0, 0, 0, 0), 0) := rfl
theorem s311_2733 {c : Nat → List AV → SS → Option Out} {l0 l1 l2 l3 l4 l5 l6 l7 : Option AV} {x y : Int64} {L2 : List (Nat × AV)} {St : List AV} {S : SS} : ev c 311 2733 [l0, l1, l2, l3, l4, l5, l6, l7] L2 (aL y :: aL x :: St) S = ev c 311 2734 [l0, l1, l2, l3, l4, l5, l6, l7] L2 (aI (if x < y then -1 else if x = y then 0 else 1) :: St) S := ev_go i311_2733 rfl
theorem i311_2734 : insAt 311 2734 = some (.ifCond .eq 5, 3, (0, 0, 0, 0), 0) := rfl
theorem s311_2734 {c : Nat → List AV → SS → Option Out} {l0 l1 l2 l3 l4 l5 l6 l7 : Option AV} {x : Int32} {L2 : List (Nat × AV)} {St : List AV} {S : SS} : ev c 311 2734 [l0, l1, l2, l3, l4, l5, l6, l7] L2 (aI x :: St) S = if x = 0 then ev c 311 2739 [l0, l1, l2, l3, l4, l5, l6, l7] L2 St S else ev c 311 2737 [l0, l1, l2, l3, l4, l5, l6, l7] L2 St S := ev_br i311_2734 rfl
theorem i311_2737 : insAt 311 2737 = some (.iconst 0, 1, (0, 0, 0, 0), 0) := rfl
theorem s311_2737 {c : Nat → List AV → SS → Option Out} {l0 l1 l2 l3 l4 l5 l6 l7 : Option AV} {L2 : List (Nat × AV)} {St : List AV} {S : SS} : ev c 311 2737 [l0, l1, l2, l3, l4, l5, l6, l7] L2 St S = ev c 311 2738 [l0, l1, l2, l3, l4, l5, l6, l7] L2 (aI 0 :: St) S := ev_go i311_2737 rfl
theorem i311_2738 : insAt 311 2738 = some (.ireturn, 1, (0, 0, 0, 0), 0) := rfl
theorem s311_2738 {c : Nat → List AV → SS → Option Out} {l0 l1 l2 l3 l4 l5 l6 l7 : Option AV} {x : Int32} {L2 : List (Nat × AV)} {S : SS} : ev c 311 2738 [l0, l1, l2, l3, l4, l5, l6, l7] L2 [aI x] S = if x = 0 ∨ x = 1 then some (.inl (some (aI x)), S) else none := ev_rt i311_2738 rfl
theorem i311_2739 : insAt 311 2739 = some (.goto 60, 3, (0, 0, 0, 0), 0) := rfl
theorem s311_2739 {c : Nat → List AV → SS → Option Out} {l0 l1 l2 l3 l4 l5 l6 l7 : Option AV} {L2 : List (Nat × AV)} {St : List AV} {S : SS} : ev c 311 2739 [l0, l1, l2, l3, l4, l5, l6, l7] L2 St S = ev c 311 2799 [l0, l1, l2, l3, l4, l5, l6, l7] L2 St S := ev_go i311_2739 rfl
theorem i311_2742 : insAt 311 2742 = some (.aload_n 1, 1, (0, 0, 0, 0), 0) := rfl
theorem s311_2742 {c : Nat → List AV → SS → Option Out} {l0 l2 l3 l4 l5 l6 l7 : Option AV} {o : OId} {L2 : List (Nat × AV)} {St : List AV} {S : SS} : ev c 311 2742 [l0, some (aR o), l2, l3, l4, l5, l6, l7] L2 St S = ev c 311 2743 [l0, some (aR o), l2, l3, l4, l5, l6, l7] L2 (aR o :: St) S := ev_go i311_2742 rfl
theorem i311_2743 : insAt 311 2743 = some (.invokevirtual 314, 3, (52, 0, 2, 11), 538) := rfl
theorem s311_2743 {c : Nat → List AV → SS → Option Out} {l0 l1 l2 l3 l4 l5 l6 l7 : Option AV} {j t : Nat} {L2 : List (Nat × AV)} {S : SS} : ev c 311 2743 [l0, l1, l2, l3, l4, l5, l6, l7] L2 [aR (11, j, t)] S = ck (c 52 [aR (11, j, t)] S) (fun v S' => ev c 311 2746 [l0, l1, l2, l3, l4, l5, l6, l7] L2 (v.toList ++ []) S') := ev_call i311_2743 rfl
theorem i311_2746 : insAt 311 2746 = some (.aload_n 2, 1, (0, 0, 0, 0), 0) := rfl
theorem s311_2746 {c : Nat → List AV → SS → Option Out} {l0 l1 l3 l4 l5 l6 l7 : Option AV} {o : OId} {L2 : List (Nat × AV)} {St : List AV} {S : SS} : ev c 311 2746 [l0, l1, some (aR o), l3, l4, l5, l6, l7] L2 St S = ev c 311 2747 [l0, l1, some (aR o), l3, l4, l5, l6, l7] L2 (aR o :: St) S := ev_go i311_2746 rfl
theorem i311_2747 : insAt 311 2747 = some (.invokevirtual 317, 3, (309, 0, 2, 12), 539) := rfl
theorem s311_2747 {c : Nat → List AV → SS → Option Out} {l0 l1 l2 l3 l4 l5 l6 l7 : Option AV} {t0 : AV} {j t : Nat} {L2 : List (Nat × AV)} {S : SS} : ev c 311 2747 [l0, l1, l2, l3, l4, l5, l6, l7] L2 [aR (12, j, t), t0] S = ck (c 309 [aR (12, j, t)] S) (fun v S' => ev c 311 2750 [l0, l1, l2, l3, l4, l5, l6, l7] L2 (v.toList ++ [t0]) S') := ev_call i311_2747 rfl
theorem i311_2750 : insAt 311 2750 = some (.if_icmp .eq 49, 3, (0, 0, 0, 0), 0) := rfl
theorem s311_2750 {c : Nat → List AV → SS → Option Out} {l0 l1 l2 l3 l4 l5 l6 l7 : Option AV} {x y : Int32} {L2 : List (Nat × AV)} {St : List AV} {S : SS} : ev c 311 2750 [l0, l1, l2, l3, l4, l5, l6, l7] L2 (aI y :: aI x :: St) S = if x = y then ev c 311 2799 [l0, l1, l2, l3, l4, l5, l6, l7] L2 St S else ev c 311 2753 [l0, l1, l2, l3, l4, l5, l6, l7] L2 St S := ev_br i311_2750 rfl
theorem i311_2753 : insAt 311 2753 = some (.iconst 0, 1, (0, 0, 0, 0), 0) := rfl
theorem s311_2753 {c : Nat → List AV → SS → Option Out} {l0 l1 l2 l3 l4 l5 l6 l7 : Option AV} {L2 : List (Nat × AV)} {St : List AV} {S : SS} : ev c 311 2753 [l0, l1, l2, l3, l4, l5, l6, l7] L2 St S = ev c 311 2754 [l0, l1, l2, l3, l4, l5, l6, l7] L2 (aI 0 :: St) S := ev_go i311_2753 rfl
theorem i311_2754 : insAt 311 2754 = some (.ireturn, 1, (0, 0, 0, 0), 0) := rfl
theorem s311_2754 {c : Nat → List AV → SS → Option Out} {l0 l1 l2 l3 l4 l5 l6 l7 : Option AV} {x : Int32} {L2 : List (Nat × AV)} {S : SS} : ev c 311 2754 [l0, l1, l2, l3, l4, l5, l6, l7] L2 [aI x] S = if x = 0 ∨ x = 1 then some (.inl (some (aI x)), S) else none := ev_rt i311_2754 rfl
theorem i311_2755 : insAt 311 2755 = some (.aload_n 1, 1, (0, 0, 0, 0), 0) := rfl
theorem s311_2755 {c : Nat → List AV → SS → Option Out} {l0 l2 l3 l4 l5 l6 l7 : Option AV} {o : OId} {L2 : List (Nat × AV)} {St : List AV} {S : SS} : ev c 311 2755 [l0, some (aR o), l2, l3, l4, l5, l6, l7] L2 St S = ev c 311 2756 [l0, some (aR o), l2, l3, l4, l5, l6, l7] L2 (aR o :: St) S := ev_go i311_2755 rfl
theorem i311_2756 : insAt 311 2756 = some (.aload_n 3, 1, (0, 0, 0, 0), 0) := rfl
theorem s311_2756 {c : Nat → List AV → SS → Option Out} {l0 l1 l2 l4 l5 l6 l7 : Option AV} {o : OId} {L2 : List (Nat × AV)} {St : List AV} {S : SS} : ev c 311 2756 [l0, l1, l2, some (aR o), l4, l5, l6, l7] L2 St S = ev c 311 2757 [l0, l1, l2, some (aR o), l4, l5, l6, l7] L2 (aR o :: St) S := ev_go i311_2756 rfl
theorem i311_2757 : insAt 311 2757 = some (.invokestatic 318, 3, (211, 2, 0, 0), 540) := rfl
theorem s311_2757 {c : Nat → List AV → SS → Option Out} {l0 l1 l2 l3 l4 l5 l6 l7 : Option AV} {a0 : OId} {a1 : OId} {L2 : List (Nat × AV)} {S : SS} : ev c 311 2757 [l0, l1, l2, l3, l4, l5, l6, l7] L2 [aR a1, aR a0] S = ck (c 211 [aR a0, aR a1] S) (fun v S' => ev c 311 2760 [l0, l1, l2, l3, l4, l5, l6, l7] L2 (v.toList ++ []) S') := ev_call i311_2757 rfl
theorem i311_2760 : insAt 311 2760 = some (.istore 6, 2, (0, 0, 0, 0), 0) := rfl
theorem s311_2760 {c : Nat → List AV → SS → Option Out} {l0 l1 l2 l3 l4 l5 l6 l7 : Option AV} {x : Int32} {L2 : List (Nat × AV)} {St : List AV} {S : SS} : ev c 311 2760 [l0, l1, l2, l3, l4, l5, l6, l7] L2 (aI x :: St) S = ev c 311 2762 [l0, l1, l2, l3, l4, l5, some (aI x), l7] (kil L2 6) St S := ev_go i311_2760 rfl
theorem i311_2762 : insAt 311 2762 = some (.aload_n 2, 1, (0, 0, 0, 0), 0) := rfl
theorem s311_2762 {c : Nat → List AV → SS → Option Out} {l0 l1 l3 l4 l5 l6 l7 : Option AV} {o : OId} {L2 : List (Nat × AV)} {St : List AV} {S : SS} : ev c 311 2762 [l0, l1, some (aR o), l3, l4, l5, l6, l7] L2 St S = ev c 311 2763 [l0, l1, some (aR o), l3, l4, l5, l6, l7] L2 (aR o :: St) S := ev_go i311_2762 rfl
theorem i311_2763 : insAt 311 2763 = some (.invokevirtual 320, 3, (310, 0, 2, 12), 541) := rfl
theorem s311_2763 {c : Nat → List AV → SS → Option Out} {l0 l1 l2 l3 l4 l5 l6 l7 : Option AV} {j t : Nat} {L2 : List (Nat × AV)} {S : SS} : ev c 311 2763 [l0, l1, l2, l3, l4, l5, l6, l7] L2 [aR (12, j, t)] S = ck (c 310 [aR (12, j, t)] S) (fun v S' => ev c 311 2766 [l0, l1, l2, l3, l4, l5, l6, l7] L2 (v.toList ++ []) S') := ev_call i311_2763 rfl
theorem i311_2766 : insAt 311 2766 = some (.istore 7, 2, (0, 0, 0, 0), 0) := rfl
theorem s311_2766 {c : Nat → List AV → SS → Option Out} {l0 l1 l2 l3 l4 l5 l6 l7 : Option AV} {x : Int32} {L2 : List (Nat × AV)} {St : List AV} {S : SS} : ev c 311 2766 [l0, l1, l2, l3, l4, l5, l6, l7] L2 (aI x :: St) S = ev c 311 2768 [l0, l1, l2, l3, l4, l5, l6, some (aI x)] (kil L2 7) St S := ev_go i311_2766 rfl
theorem i311_2768 : insAt 311 2768 = some (.aload_n 2, 1, (0, 0, 0, 0), 0) := rfl
theorem s311_2768 {c : Nat → List AV → SS → Option Out} {l0 l1 l3 l4 l5 l6 l7 : Option AV} {o : OId} {L2 : List (Nat × AV)} {St : List AV} {S : SS} : ev c 311 2768 [l0, l1, some (aR o), l3, l4, l5, l6, l7] L2 St S = ev c 311 2769 [l0, l1, some (aR o), l3, l4, l5, l6, l7] L2 (aR o :: St) S := ev_go i311_2768 rfl
theorem i311_2769 : insAt 311 2769 = some (.invokevirtual 149, 3, (215, 0, 2, 12), 441) := rfl
theorem s311_2769 {c : Nat → List AV → SS → Option Out} {l0 l1 l2 l3 l4 l5 l6 l7 : Option AV} {j t : Nat} {L2 : List (Nat × AV)} {S : SS} : ev c 311 2769 [l0, l1, l2, l3, l4, l5, l6, l7] L2 [aR (12, j, t)] S = ck (c 215 [aR (12, j, t)] S) (fun v S' => ev c 311 2772 [l0, l1, l2, l3, l4, l5, l6, l7] L2 (v.toList ++ []) S') := ev_call i311_2769 rfl
theorem i311_2772 : insAt 311 2772 = some (.iload 6, 2, (0, 0, 0, 0), 0) := rfl
theorem s311_2772 {c : Nat → List AV → SS → Option Out} {l0 l1 l2 l3 l4 l5 l7 : Option AV} {x : Int32} {L2 : List (Nat × AV)} {St : List AV} {S : SS} : ev c 311 2772 [l0, l1, l2, l3, l4, l5, some (aI x), l7] L2 St S = ev c 311 2774 [l0, l1, l2, l3, l4, l5, some (aI x), l7] L2 (aI x :: St) S := ev_go i311_2772 rfl
theorem i311_2774 : insAt 311 2774 = some (.if_icmp .eq 5, 3, (0, 0, 0, 0), 0) := rfl
theorem s311_2774 {c : Nat → List AV → SS → Option Out} {l0 l1 l2 l3 l4 l5 l6 l7 : Option AV} {x y : Int32} {L2 : List (Nat × AV)} {St : List AV} {S : SS} : ev c 311 2774 [l0, l1, l2, l3, l4, l5, l6, l7] L2 (aI y :: aI x :: St) S = if x = y then ev c 311 2779 [l0, l1, l2, l3, l4, l5, l6, l7] L2 St S else ev c 311 2777 [l0, l1, l2, l3, l4, l5, l6, l7] L2 St S := ev_br i311_2774 rfl
theorem i311_2777 : insAt 311 2777 = some (.iconst 0, 1, (0, 0, 0, 0), 0) := rfl
theorem s311_2777 {c : Nat → List AV → SS → Option Out} {l0 l1 l2 l3 l4 l5 l6 l7 : Option AV} {L2 : List (Nat × AV)} {St : List AV} {S : SS} : ev c 311 2777 [l0, l1, l2, l3, l4, l5, l6, l7] L2 St S = ev c 311 2778 [l0, l1, l2, l3, l4, l5, l6, l7] L2 (aI 0 :: St) S := ev_go i311_2777 rfl
theorem i311_2778 : insAt 311 2778 = some (.ireturn, 1, (0, 0, 0, 0), 0) := rfl
theorem s311_2778 {c : Nat → List AV → SS → Option Out} {l0 l1 l2 l3 l4 l5 l6 l7 : Option AV} {x : Int32} {L2 : List (Nat × AV)} {S : SS} : ev c 311 2778 [l0, l1, l2, l3, l4, l5, l6, l7] L2 [aI x] S = if x = 0 ∨ x = 1 then some (.inl (some (aI x)), S) else none := ev_rt i311_2778 rfl
theorem i311_2779 : insAt 311 2779 = some (.iload 6, 2, (0, 0, 0, 0), 0) := rfl
theorem s311_2779 {c : Nat → List AV → SS → Option Out} {l0 l1 l2 l3 l4 l5 l7 : Option AV} {x : Int32} {L2 : List (Nat × AV)} {St : List AV} {S : SS} : ev c 311 2779 [l0, l1, l2, l3, l4, l5, some (aI x), l7] L2 St S = ev c 311 2781 [l0, l1, l2, l3, l4, l5, some (aI x), l7] L2 (aI x :: St) S := ev_go i311_2779 rfl
theorem i311_2781 : insAt 311 2781 = some (.ifCond .ne 15, 3, (0, 0, 0, 0), 0) := rfl
theorem s311_2781 {c : Nat → List AV → SS → Option Out} {l0 l1 l2 l3 l4 l5 l6 l7 : Option AV} {x : Int32} {L2 : List (Nat × AV)} {St : List AV} {S : SS} : ev c 311 2781 [l0, l1, l2, l3, l4, l5, l6, l7] L2 (aI x :: St) S = if x = 0 then ev c 311 2784 [l0, l1, l2, l3, l4, l5, l6, l7] L2 St S else ev c 311 2796 [l0, l1, l2, l3, l4, l5, l6, l7] L2 St S := (ev_br i311_2781 rfl).trans (ite_not _ _ _)
theorem i311_2784 : insAt 311 2784 = some (.aload_n 3, 1, (0, 0, 0, 0), 0) := rfl
theorem s311_2784 {c : Nat → List AV → SS → Option Out} {l0 l1 l2 l4 l5 l6 l7 : Option AV} {o : OId} {L2 : List (Nat × AV)} {St : List AV} {S : SS} : ev c 311 2784 [l0, l1, l2, some (aR o), l4, l5, l6, l7] L2 St S = ev c 311 2785 [l0, l1, l2, some (aR o), l4, l5, l6, l7] L2 (aR o :: St) S := ev_go i311_2784 rfl
theorem i311_2785 : insAt 311 2785 = some (.iconst 0, 1, (0, 0, 0, 0), 0) := rfl
theorem s311_2785 {c : Nat → List AV → SS → Option Out} {l0 l1 l2 l3 l4 l5 l6 l7 : Option AV} {L2 : List (Nat × AV)} {St : List AV} {S : SS} : ev c 311 2785 [l0, l1, l2, l3, l4, l5, l6, l7] L2 St S = ev c 311 2786 [l0, l1, l2, l3, l4, l5, l6, l7] L2 (aI 0 :: St) S := ev_go i311_2785 rfl
theorem i311_2786 : insAt 311 2786 = some (.laload, 1, (0, 0, 0, 0), 0) := rfl
theorem s311_2786 {c : Nat → List AV → SS → Option Out} {l0 l1 l2 l3 l4 l5 l6 l7 : Option AV} {i : Int32} {o : OId} {L2 : List (Nat × AV)} {St : List AV} {S : SS} : ev c 311 2786 [l0, l1, l2, l3, l4, l5, l6, l7] L2 (aI i :: aR o :: St) S = kJ o i (ev c 311 2787 [l0, l1, l2, l3, l4, l5, l6, l7] L2 (aL (toL (S.2.1 o i.toNatClampNeg)) :: St) S) := ev_laload i311_2786
theorem i311_2787 : insAt 311 2787 = some (.iload 7, 2, (0, 0, 0, 0), 0) := rfl
theorem s311_2787 {c : Nat → List AV → SS → Option Out} {l0 l1 l2 l3 l4 l5 l6 : Option AV} {x : Int32} {L2 : List (Nat × AV)} {St : List AV} {S : SS} : ev c 311 2787 [l0, l1, l2, l3, l4, l5, l6, some (aI x)] L2 St S = ev c 311 2789 [l0, l1, l2, l3, l4, l5, l6, some (aI x)] L2 (aI x :: St) S := ev_go i311_2787 rfl
theorem i311_2789 : insAt 311 2789 = some (.i2l, 1, (0, 0, 0, 0), 0) := rfl
theorem s311_2789 {c : Nat → List AV → SS → Option Out} {l0 l1 l2 l3 l4 l5 l6 l7 : Option AV} {x : Int32} {L2 : List (Nat × AV)} {St : List AV} {S : SS} : ev c 311 2789 [l0, l1, l2, l3, l4, l5, l6, l7] L2 (aI x :: St) S = ev c 311 2790 [l0, l1, l2, l3, l4, l5, l6, l7] L2 (aL x.toInt64 :: St) S := ev_go i311_2789 rfl
theorem i311_2790 : insAt 311 2790 = some (.lcmp, 1, (0, 0, 0, 0), 0) := rfl
theorem s311_2790 {c : Nat → List AV → SS → Option Out} {l0 l1 l2 l3 l4 l5 l6 l7 : Option AV} {x y : Int64} {L2 : List (Nat × AV)} {St : List AV} {S : SS} : ev c 311 2790 [l0, l1, l2, l3, l4, l5, l6, l7] L2 (aL y :: aL x :: St) S = ev c 311 2791 [l0, l1, l2, l3, l4, l5, l6, l7] L2 (aI (if x < y then -1 else if x = y then 0 else 1) :: St) S := ev_go i311_2790 rfl
theorem i311_2791 : insAt 311 2791 = some (.ifCond .eq 5, 3, (0, 0, 0, 0), 0) := rfl
theorem s311_2791 {c : Nat → List AV → SS → Option Out} {l0 l1 l2 l3 l4 l5 l6 l7 : Option AV} {x : Int32} {L2 : List (Nat × AV)} {St : List AV} {S : SS} : ev c 311 2791 [l0, l1, l2, l3, l4, l5, l6, l7] L2 (aI x :: St) S = if x = 0 then ev c 311 2796 [l0, l1, l2, l3, l4, l5, l6, l7] L2 St S else ev c 311 2794 [l0, l1, l2, l3, l4, l5, l6, l7] L2 St S := ev_br i311_2791 rfl
theorem i311_2794 : insAt 311 2794 = some (.iconst 0, 1, (0, 0, 0, 0), 0) := rfl
theorem s311_2794 {c : Nat → List AV → SS → Option Out} {l0 l1 l2 l3 l4 l5 l6 l7 : Option AV} {L2 : List (Nat × AV)} {St : List AV} {S : SS} : ev c 311 2794 [l0, l1, l2, l3, l4, l5, l6, l7] L2 St S = ev c 311 2795 [l0, l1, l2, l3, l4, l5, l6, l7] L2 (aI 0 :: St) S := ev_go i311_2794 rfl
theorem i311_2795 : insAt 311 2795 = some (.ireturn, 1, (0, 0, 0, 0), 0) := rfl
theorem s311_2795 {c : Nat → List AV → SS → Option Out} {l0 l1 l2 l3 l4 l5 l6 l7 : Option AV} {x : Int32} {L2 : List (Nat × AV)} {S : SS} : ev c 311 2795 [l0, l1, l2, l3, l4, l5, l6, l7] L2 [aI x] S = if x = 0 ∨ x = 1 then some (.inl (some (aI x)), S) else none := ev_rt i311_2795 rfl
theorem i311_2796 : insAt 311 2796 = some (.goto 3, 3, (0, 0, 0, 0), 0) := rfl
theorem s311_2796 {c : Nat → List AV → SS → Option Out} {l0 l1 l2 l3 l4 l5 l6 l7 : Option AV} {L2 : List (Nat × AV)} {St : List AV} {S : SS} : ev c 311 2796 [l0, l1, l2, l3, l4, l5, l6, l7] L2 St S = ev c 311 2799 [l0, l1, l2, l3, l4, l5, l6, l7] L2 St S := ev_go i311_2796 rfl
theorem i311_2799 : insAt 311 2799 = some (.iinc 5 4, 3, (0, 0, 0, 0), 0) := rfl
theorem s311_2799 {c : Nat → List AV → SS → Option Out} {l0 l1 l2 l3 l4 l6 l7 : Option AV} {x : Int32} {L2 : List (Nat × AV)} {St : List AV} {S : SS} : ev c 311 2799 [l0, l1, l2, l3, l4, some (aI x), l6, l7] L2 St S = ev c 311 2802 [l0, l1, l2, l3, l4, some (aI (x + 4)), l6, l7] (kil L2 5) St S := ev_go i311_2799 rfl
theorem i311_2802 : insAt 311 2802 = some (.goto (-2774), 3, (0, 0, 0, 0), 0) := rfl
theorem s311_2802 {c : Nat → List AV → SS → Option Out} {l0 l1 l2 l3 l4 l5 l6 l7 : Option AV} {L2 : List (Nat × AV)} {St : List AV} {S : SS} : ev c 311 2802 [l0, l1, l2, l3, l4, l5, l6, l7] L2 St S = ev c 311 28 [l0, l1, l2, l3, l4, l5, l6, l7] L2 St S := ev_go i311_2802 rfl
theorem i311_2805 : insAt 311 2805 = some (.iconst 1, 1, (0, 0, 0, 0), 0) := rfl
theorem s311_2805 {c : Nat → List AV → SS → Option Out} {l0 l1 l2 l3 l4 l5 l6 l7 : Option AV} {L2 : List (Nat × AV)} {St : List AV} {S : SS} : ev c 311 2805 [l0, l1, l2, l3, l4, l5, l6, l7] L2 St S = ev c 311 2806 [l0, l1, l2, l3, l4, l5, l6, l7] L2 (aI 1 :: St) S := ev_go i311_2805 rfl
theorem i311_2806 : insAt 311 2806 = some (.ireturn, 1, (0, 0, 0, 0), 0) := rfl
theorem s311_2806 {c : Nat → List AV → SS → Option Out} {l0 l1 l2 l3 l4 l5 l6 l7 : Option AV} {x : Int32} {L2 : List (Nat × AV)} {S : SS} : ev c 311 2806 [l0, l1, l2, l3, l4, l5, l6, l7] L2 [aI x] S = if x = 0 ∨ x = 1 then some (.inl (some (aI x)), S) else none := ev_rt i311_2806 rfl
theorem m311 {d : Nat} {a0 : OId} {S : SS} : evm (d + 1) 311 [aR a0] S = ev (evm d) 311 0 [some (aR a0), none, none, none, none, none, none, none] [] [] S := evm_s (n := 8) rfl (Nat.le_of_ble_eq_true rfl) rfl rfl
