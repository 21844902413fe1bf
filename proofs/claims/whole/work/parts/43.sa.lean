/-! FrequencyOffice$Books.<init>()V -/
theorem i1_0 : insAt 1 0 = some (.aload_n 0, 1, (0, 0, 0, 0), 0) := rfl
theorem s1_0 {c : Nat → List AV → SS → Option Out} {l1 : Option AV} {o : OId} {L2 : List (Nat × AV)} {St : List AV} {S : SS} : ev c 1 0 [some (aR o), l1] L2 St S = ev c 1 1 [some (aR o), l1] L2 (aR o :: St) S := ev_go i1_0 rfl
theorem i1_1 : insAt 1 1 = some (.invokespecial 3, 3, (0, 0, 20, 0), 20) := rfl
theorem s1_1 {c : Nat → List AV → SS → Option Out} {l0 l1 : Option AV} {j t : Nat} {L2 : List (Nat × AV)} {S : SS} : ev c 1 1 [l0, l1] L2 [aR (4, j, t)] S = ev c 1 4 [l0, l1] L2 [] S := ev_go i1_1 rfl
theorem i1_4 : insAt 1 4 = some (.aload_n 0, 1, (0, 0, 0, 0), 0) := rfl
theorem s1_4 {c : Nat → List AV → SS → Option Out} {l1 : Option AV} {o : OId} {L2 : List (Nat × AV)} {St : List AV} {S : SS} : ev c 1 4 [some (aR o), l1] L2 St S = ev c 1 5 [some (aR o), l1] L2 (aR o :: St) S := ev_go i1_4 rfl
theorem i1_5 : insAt 1 5 = some (.bipush 10, 2, (0, 0, 0, 0), 0) := rfl
theorem s1_5 {c : Nat → List AV → SS → Option Out} {l0 l1 : Option AV} {L2 : List (Nat × AV)} {St : List AV} {S : SS} : ev c 1 5 [l0, l1] L2 St S = ev c 1 7 [l0, l1] L2 (aI 10 :: St) S := ev_go i1_5 rfl
theorem i1_7 : insAt 1 7 = some (.putfield 9, 3, (4, 0, 0, 0), 21) := rfl
theorem s1_7 {c : Nat → List AV → SS → Option Out} {l0 l1 : Option AV} {j t : Nat} {x : Int32} {L2 : List (Nat × AV)} {St : List AV} {S : SS} : ev c 1 7 [l0, l1] L2 (aI x :: aR (4, j, t) :: St) S = ev c 1 10 [l0, l1] L2 St (setI S.1 (4, j, t) 0 x, S.2) := ev_go i1_7 rfl
theorem i1_10 : insAt 1 10 = some (.aload_n 0, 1, (0, 0, 0, 0), 0) := rfl
theorem s1_10 {c : Nat → List AV → SS → Option Out} {l1 : Option AV} {o : OId} {L2 : List (Nat × AV)} {St : List AV} {S : SS} : ev c 1 10 [some (aR o), l1] L2 St S = ev c 1 11 [some (aR o), l1] L2 (aR o :: St) S := ev_go i1_10 rfl
theorem i1_11 : insAt 1 11 = some (.bipush 20, 2, (0, 0, 0, 0), 0) := rfl
theorem s1_11 {c : Nat → List AV → SS → Option Out} {l0 l1 : Option AV} {L2 : List (Nat × AV)} {St : List AV} {S : SS} : ev c 1 11 [l0, l1] L2 St S = ev c 1 13 [l0, l1] L2 (aI 20 :: St) S := ev_go i1_11 rfl
theorem i1_13 : insAt 1 13 = some (.putfield 15, 3, (4, 1, 0, 0), 22) := rfl
theorem s1_13 {c : Nat → List AV → SS → Option Out} {l0 l1 : Option AV} {j t : Nat} {x : Int32} {L2 : List (Nat × AV)} {St : List AV} {S : SS} : ev c 1 13 [l0, l1] L2 (aI x :: aR (4, j, t) :: St) S = ev c 1 16 [l0, l1] L2 St (setI S.1 (4, j, t) 1 x, S.2) := ev_go i1_13 rfl
theorem i1_16 : insAt 1 16 = some (.aload_n 0, 1, (0, 0, 0, 0), 0) := rfl
theorem s1_16 {c : Nat → List AV → SS → Option Out} {l1 : Option AV} {o : OId} {L2 : List (Nat × AV)} {St : List AV} {S : SS} : ev c 1 16 [some (aR o), l1] L2 St S = ev c 1 17 [some (aR o), l1] L2 (aR o :: St) S := ev_go i1_16 rfl
theorem i1_17 : insAt 1 17 = some (.bipush 40, 2, (0, 0, 0, 0), 0) := rfl
theorem s1_17 {c : Nat → List AV → SS → Option Out} {l0 l1 : Option AV} {L2 : List (Nat × AV)} {St : List AV} {S : SS} : ev c 1 17 [l0, l1] L2 St S = ev c 1 19 [l0, l1] L2 (aI 40 :: St) S := ev_go i1_17 rfl
theorem i1_19 : insAt 1 19 = some (.putfield 18, 3, (4, 2, 0, 0), 23) := rfl
theorem s1_19 {c : Nat → List AV → SS → Option Out} {l0 l1 : Option AV} {j t : Nat} {x : Int32} {L2 : List (Nat × AV)} {St : List AV} {S : SS} : ev c 1 19 [l0, l1] L2 (aI x :: aR (4, j, t) :: St) S = ev c 1 22 [l0, l1] L2 St (setI S.1 (4, j, t) 2 x, S.2) := ev_go i1_19 rfl
theorem i1_22 : insAt 1 22 = some (.aload_n 0, 1, (0, 0, 0, 0), 0) := rfl
theorem s1_22 {c : Nat → List AV → SS → Option Out} {l1 : Option AV} {o : OId} {L2 : List (Nat × AV)} {St : List AV} {S : SS} : ev c 1 22 [some (aR o), l1] L2 St S = ev c 1 23 [some (aR o), l1] L2 (aR o :: St) S := ev_go i1_22 rfl
theorem i1_23 : insAt 1 23 = some (.iconst 0, 1, (0, 0, 0, 0), 0) := rfl
theorem s1_23 {c : Nat → List AV → SS → Option Out} {l0 l1 : Option AV} {L2 : List (Nat × AV)} {St : List AV} {S : SS} : ev c 1 23 [l0, l1] L2 St S = ev c 1 24 [l0, l1] L2 (aI 0 :: St) S := ev_go i1_23 rfl
theorem i1_24 : insAt 1 24 = some (.putfield 21, 3, (4, 3, 0, 0), 24) := rfl
theorem s1_24 {c : Nat → List AV → SS → Option Out} {l0 l1 : Option AV} {j t : Nat} {x : Int32} {L2 : List (Nat × AV)} {St : List AV} {S : SS} : ev c 1 24 [l0, l1] L2 (aI x :: aR (4, j, t) :: St) S = ev c 1 27 [l0, l1] L2 St (setI S.1 (4, j, t) 3 x, S.2) := ev_go i1_24 rfl
theorem i1_27 : insAt 1 27 = some (.aload_n 0, 1, (0, 0, 0, 0), 0) := rfl
theorem s1_27 {c : Nat → List AV → SS → Option Out} {l1 : Option AV} {o : OId} {L2 : List (Nat × AV)} {St : List AV} {S : SS} : ev c 1 27 [some (aR o), l1] L2 St S = ev c 1 28 [some (aR o), l1] L2 (aR o :: St) S := ev_go i1_27 rfl
theorem i1_28 : insAt 1 28 = some (.iconst (-1), 1, (0, 0, 0, 0), 0) := rfl
theorem s1_28 {c : Nat → List AV → SS → Option Out} {l0 l1 : Option AV} {L2 : List (Nat × AV)} {St : List AV} {S : SS} : ev c 1 28 [l0, l1] L2 St S = ev c 1 29 [l0, l1] L2 (aI (-1) :: St) S := ev_go i1_28 rfl
theorem i1_29 : insAt 1 29 = some (.putfield 24, 3, (4, 4, 0, 0), 25) := rfl
theorem s1_29 {c : Nat → List AV → SS → Option Out} {l0 l1 : Option AV} {j t : Nat} {x : Int32} {L2 : List (Nat × AV)} {St : List AV} {S : SS} : ev c 1 29 [l0, l1] L2 (aI x :: aR (4, j, t) :: St) S = ev c 1 32 [l0, l1] L2 St (setI S.1 (4, j, t) 4 x, S.2) := ev_go i1_29 rfl
theorem i1_32 : insAt 1 32 = some (.aload_n 0, 1, (0, 0, 0, 0), 0) := rfl
theorem s1_32 {c : Nat → List AV → SS → Option Out} {l1 : Option AV} {o : OId} {L2 : List (Nat × AV)} {St : List AV} {S : SS} : ev c 1 32 [some (aR o), l1] L2 St S = ev c 1 33 [some (aR o), l1] L2 (aR o :: St) S := ev_go i1_32 rfl
theorem i1_33 : insAt 1 33 = some (.iconst 0, 1, (0, 0, 0, 0), 0) := rfl
theorem s1_33 {c : Nat → List AV → SS → Option Out} {l0 l1 : Option AV} {L2 : List (Nat × AV)} {St : List AV} {S : SS} : ev c 1 33 [l0, l1] L2 St S = ev c 1 34 [l0, l1] L2 (aI 0 :: St) S := ev_go i1_33 rfl
theorem i1_34 : insAt 1 34 = some (.putfield 27, 3, (4, 5, 0, 0), 26) := rfl
theorem s1_34 {c : Nat → List AV → SS → Option Out} {l0 l1 : Option AV} {j t : Nat} {x : Int32} {L2 : List (Nat × AV)} {St : List AV} {S : SS} : ev c 1 34 [l0, l1] L2 (aI x :: aR (4, j, t) :: St) S = ev c 1 37 [l0, l1] L2 St (setI S.1 (4, j, t) 5 x, S.2) := ev_go i1_34 rfl
theorem i1_37 : insAt 1 37 = some (.aload_n 0, 1, (0, 0, 0, 0), 0) := rfl
theorem s1_37 {c : Nat → List AV → SS → Option Out} {l1 : Option AV} {o : OId} {L2 : List (Nat × AV)} {St : List AV} {S : SS} : ev c 1 37 [some (aR o), l1] L2 St S = ev c 1 38 [some (aR o), l1] L2 (aR o :: St) S := ev_go i1_37 rfl
theorem i1_38 : insAt 1 38 = some (.iconst 0, 1, (0, 0, 0, 0), 0) := rfl
theorem s1_38 {c : Nat → List AV → SS → Option Out} {l0 l1 : Option AV} {L2 : List (Nat × AV)} {St : List AV} {S : SS} : ev c 1 38 [l0, l1] L2 St S = ev c 1 39 [l0, l1] L2 (aI 0 :: St) S := ev_go i1_38 rfl
theorem i1_39 : insAt 1 39 = some (.putfield 30, 3, (4, 6, 0, 0), 27) := rfl
theorem s1_39 {c : Nat → List AV → SS → Option Out} {l0 l1 : Option AV} {j t : Nat} {x : Int32} {L2 : List (Nat × AV)} {St : List AV} {S : SS} : ev c 1 39 [l0, l1] L2 (aI x :: aR (4, j, t) :: St) S = ev c 1 42 [l0, l1] L2 St (setI S.1 (4, j, t) 6 x, S.2) := ev_go i1_39 rfl
theorem i1_42 : insAt 1 42 = some (.aload_n 0, 1, (0, 0, 0, 0), 0) := rfl
theorem s1_42 {c : Nat → List AV → SS → Option Out} {l1 : Option AV} {o : OId} {L2 : List (Nat × AV)} {St : List AV} {S : SS} : ev c 1 42 [some (aR o), l1] L2 St S = ev c 1 43 [some (aR o), l1] L2 (aR o :: St) S := ev_go i1_42 rfl
theorem i1_43 : insAt 1 43 = some (.iconst 0, 1, (0, 0, 0, 0), 0) := rfl
theorem s1_43 {c : Nat → List AV → SS → Option Out} {l0 l1 : Option AV} {L2 : List (Nat × AV)} {St : List AV} {S : SS} : ev c 1 43 [l0, l1] L2 St S = ev c 1 44 [l0, l1] L2 (aI 0 :: St) S := ev_go i1_43 rfl
theorem i1_44 : insAt 1 44 = some (.putfield 33, 3, (4, 7, 0, 0), 28) := rfl
theorem s1_44 {c : Nat → List AV → SS → Option Out} {l0 l1 : Option AV} {j t : Nat} {x : Int32} {L2 : List (Nat × AV)} {St : List AV} {S : SS} : ev c 1 44 [l0, l1] L2 (aI x :: aR (4, j, t) :: St) S = ev c 1 47 [l0, l1] L2 St (setI S.1 (4, j, t) 7 x, S.2) := ev_go i1_44 rfl
theorem i1_47 : insAt 1 47 = some (.aload_n 0, 1, (0, 0, 0, 0), 0) := rfl
theorem s1_47 {c : Nat → List AV → SS → Option Out} {l1 : Option AV} {o : OId} {L2 : List (Nat × AV)} {St : List AV} {S : SS} : ev c 1 47 [some (aR o), l1] L2 St S = ev c 1 48 [some (aR o), l1] L2 (aR o :: St) S := ev_go i1_47 rfl
theorem i1_48 : insAt 1 48 = some (.bipush 7, 2, (0, 0, 0, 0), 0) := rfl
theorem s1_48 {c : Nat → List AV → SS → Option Out} {l0 l1 : Option AV} {L2 : List (Nat × AV)} {St : List AV} {S : SS} : ev c 1 48 [l0, l1] L2 St S = ev c 1 50 [l0, l1] L2 (aI 7 :: St) S := ev_go i1_48 rfl
theorem i1_50 : insAt 1 50 = some (.anewarray 36, 3, (0, 0, 0, 0), 29) := rfl
theorem i1_53 : insAt 1 53 = some (.putfield 38, 3, (4, 8, 0, 0), 30) := rfl
theorem s1_53 {c : Nat → List AV → SS → Option Out} {l0 l1 : Option AV} {j t : Nat} {p : OId} {L2 : List (Nat × AV)} {St : List AV} {S : SS} : ev c 1 53 [l0, l1] L2 (aR p :: aR (4, j, t) :: St) S = ev c 1 56 [l0, l1] L2 St (S.1, S.2.1, setV S.2.2.1 (4, j, t) 8 (aR p), S.2.2.2) := ev_go i1_53 rfl
theorem i1_56 : insAt 1 56 = some (.aload_n 0, 1, (0, 0, 0, 0), 0) := rfl
theorem s1_56 {c : Nat → List AV → SS → Option Out} {l1 : Option AV} {o : OId} {L2 : List (Nat × AV)} {St : List AV} {S : SS} : ev c 1 56 [some (aR o), l1] L2 St S = ev c 1 57 [some (aR o), l1] L2 (aR o :: St) S := ev_go i1_56 rfl
theorem i1_57 : insAt 1 57 = some (.new 36, 3, (10, 0, 0, 0), 29) := rfl
theorem i1_60 : insAt 1 60 = some (.dup, 1, (0, 0, 0, 0), 0) := rfl
theorem s1_60 {c : Nat → List AV → SS → Option Out} {l0 l1 : Option AV} {x : OId} {L2 : List (Nat × AV)} {St : List AV} {S : SS} : ev c 1 60 [l0, l1] L2 (aR x :: St) S = ev c 1 61 [l0, l1] L2 (aR x :: aR x :: St) S := ev_go i1_60 rfl
theorem i1_61 : insAt 1 61 = some (.invokespecial 42, 3, (2, 0, 6, 10), 31) := rfl
theorem s1_61 {c : Nat → List AV → SS → Option Out} {l0 l1 : Option AV} {t0 t1 : AV} {j t : Nat} {L2 : List (Nat × AV)} {S : SS} : ev c 1 61 [l0, l1] L2 [aR (10, j, t), t0, t1] S = ck (c 2 [aR (10, j, t)] S) (fun v S' => ev c 1 64 [l0, l1] L2 (v.toList ++ [t0, t1]) S') := ev_call i1_61 rfl
theorem i1_64 : insAt 1 64 = some (.putfield 43, 3, (4, 9, 0, 0), 32) := rfl
theorem s1_64 {c : Nat → List AV → SS → Option Out} {l0 l1 : Option AV} {j t : Nat} {p : OId} {L2 : List (Nat × AV)} {St : List AV} {S : SS} : ev c 1 64 [l0, l1] L2 (aR p :: aR (4, j, t) :: St) S = ev c 1 67 [l0, l1] L2 St (S.1, S.2.1, setV S.2.2.1 (4, j, t) 9 (aR p), S.2.2.2) := ev_go i1_64 rfl
theorem i1_67 : insAt 1 67 = some (.aload_n 0, 1, (0, 0, 0, 0), 0) := rfl
theorem s1_67 {c : Nat → List AV → SS → Option Out} {l1 : Option AV} {o : OId} {L2 : List (Nat × AV)} {St : List AV} {S : SS} : ev c 1 67 [some (aR o), l1] L2 St S = ev c 1 68 [some (aR o), l1] L2 (aR o :: St) S := ev_go i1_67 rfl
theorem i1_68 : insAt 1 68 = some (.bipush 49, 2, (0, 0, 0, 0), 0) := rfl
theorem s1_68 {c : Nat → List AV → SS → Option Out} {l0 l1 : Option AV} {L2 : List (Nat × AV)} {St : List AV} {S : SS} : ev c 1 68 [l0, l1] L2 St S = ev c 1 70 [l0, l1] L2 (aI 49 :: St) S := ev_go i1_68 rfl
theorem i1_70 : insAt 1 70 = some (.newarray .int, 2, (0, 0, 0, 0), 0) := rfl
theorem i1_72 : insAt 1 72 = some (.putfield 47, 3, (4, 10, 0, 0), 33) := rfl
theorem s1_72 {c : Nat → List AV → SS → Option Out} {l0 l1 : Option AV} {j t : Nat} {p : OId} {L2 : List (Nat × AV)} {St : List AV} {S : SS} : ev c 1 72 [l0, l1] L2 (aR p :: aR (4, j, t) :: St) S = ev c 1 75 [l0, l1] L2 St (S.1, S.2.1, setV S.2.2.1 (4, j, t) 10 (aR p), S.2.2.2) := ev_go i1_72 rfl
theorem i1_75 : insAt 1 75 = some (.aload_n 0, 1, (0, 0, 0, 0), 0) := rfl
theorem s1_75 {c : Nat → List AV → SS → Option Out} {l1 : Option AV} {o : OId} {L2 : List (Nat × AV)} {St : List AV} {S : SS} : ev c 1 75 [some (aR o), l1] L2 St S = ev c 1 76 [some (aR o), l1] L2 (aR o :: St) S := ev_go i1_75 rfl
theorem i1_76 : insAt 1 76 = some (.new 51, 3, (7, 0, 0, 0), 34) := rfl
theorem i1_79 : insAt 1 79 = some (.dup, 1, (0, 0, 0, 0), 0) := rfl
theorem s1_79 {c : Nat → List AV → SS → Option Out} {l0 l1 : Option AV} {x : OId} {L2 : List (Nat × AV)} {St : List AV} {S : SS} : ev c 1 79 [l0, l1] L2 (aR x :: St) S = ev c 1 80 [l0, l1] L2 (aR x :: aR x :: St) S := ev_go i1_79 rfl
theorem i1_80 : insAt 1 80 = some (.invokespecial 53, 3, (3, 0, 6, 7), 35) := rfl
theorem s1_80 {c : Nat → List AV → SS → Option Out} {l0 l1 : Option AV} {t0 t1 : AV} {j t : Nat} {L2 : List (Nat × AV)} {S : SS} : ev c 1 80 [l0, l1] L2 [aR (7, j, t), t0, t1] S = ck (c 3 [aR (7, j, t)] S) (fun v S' => ev c 1 83 [l0, l1] L2 (v.toList ++ [t0, t1]) S') := ev_call i1_80 rfl
theorem i1_83 : insAt 1 83 = some (.putfield 54, 3, (4, 11, 0, 0), 36) := rfl
theorem s1_83 {c : Nat → List AV → SS → Option Out} {l0 l1 : Option AV} {j t : Nat} {p : OId} {L2 : List (Nat × AV)} {St : List AV} {S : SS} : ev c 1 83 [l0, l1] L2 (aR p :: aR (4, j, t) :: St) S = ev c 1 86 [l0, l1] L2 St (S.1, S.2.1, setV S.2.2.1 (4, j, t) 11 (aR p), S.2.2.2) := ev_go i1_83 rfl
theorem i1_86 : insAt 1 86 = some (.iconst 0, 1, (0, 0, 0, 0), 0) := rfl
theorem s1_86 {c : Nat → List AV → SS → Option Out} {l0 l1 : Option AV} {L2 : List (Nat × AV)} {St : List AV} {S : SS} : ev c 1 86 [l0, l1] L2 St S = ev c 1 87 [l0, l1] L2 (aI 0 :: St) S := ev_go i1_86 rfl
theorem i1_87 : insAt 1 87 = some (.istore_n 1, 1, (0, 0, 0, 0), 0) := rfl
theorem s1_87 {c : Nat → List AV → SS → Option Out} {l0 l1 : Option AV} {x : Int32} {L2 : List (Nat × AV)} {St : List AV} {S : SS} : ev c 1 87 [l0, l1] L2 (aI x :: St) S = ev c 1 88 [l0, some (aI x)] (kil L2 1) St S := ev_go i1_87 rfl
theorem i1_88 : insAt 1 88 = some (.iload_n 1, 1, (0, 0, 0, 0), 0) := rfl
theorem s1_88 {c : Nat → List AV → SS → Option Out} {l0 : Option AV} {x : Int32} {L2 : List (Nat × AV)} {St : List AV} {S : SS} : ev c 1 88 [l0, some (aI x)] L2 St S = ev c 1 89 [l0, some (aI x)] L2 (aI x :: St) S := ev_go i1_88 rfl
theorem i1_89 : insAt 1 89 = some (.aload_n 0, 1, (0, 0, 0, 0), 0) := rfl
theorem s1_89 {c : Nat → List AV → SS → Option Out} {l1 : Option AV} {o : OId} {L2 : List (Nat × AV)} {St : List AV} {S : SS} : ev c 1 89 [some (aR o), l1] L2 St S = ev c 1 90 [some (aR o), l1] L2 (aR o :: St) S := ev_go i1_89 rfl
theorem i1_90 : insAt 1 90 = some (.getfield 38, 3, (4, 8, 0, 0), 30) := rfl
theorem s1_90 {c : Nat → List AV → SS → Option Out} {l0 l1 : Option AV} {j t : Nat} {L2 : List (Nat × AV)} {St : List AV} {S : SS} : ev c 1 90 [l0, l1] L2 (aR (4, j, t) :: St) S = ev c 1 93 [l0, l1] L2 (S.2.2.1 (4, j, t) 8 :: St) S := ev_go i1_90 rfl
theorem i1_93 : insAt 1 93 = some (.arraylength, 1, (0, 0, 0, 0), 0) := rfl
theorem s1_93 {c : Nat → List AV → SS → Option Out} {l0 l1 : Option AV} {o : OId} {L2 : List (Nat × AV)} {St : List AV} {S : SS} : ev c 1 93 [l0, l1] L2 (aR o :: St) S = kN o (fun x => ev c 1 94 [l0, l1] L2 (aI x :: St) S) := ev_alen i1_93
theorem i1_94 : insAt 1 94 = some (.if_icmp .ge 22, 3, (0, 0, 0, 0), 0) := rfl
theorem s1_94 {c : Nat → List AV → SS → Option Out} {l0 l1 : Option AV} {x y : Int32} {L2 : List (Nat × AV)} {St : List AV} {S : SS} : ev c 1 94 [l0, l1] L2 (aI y :: aI x :: St) S = if y ≤ x then ev c 1 116 [l0, l1] L2 St S else ev c 1 97 [l0, l1] L2 St S := ev_br i1_94 rfl
theorem i1_97 : insAt 1 97 = some (.aload_n 0, 1, (0, 0, 0, 0), 0) := rfl
theorem s1_97 {c : Nat → List AV → SS → Option Out} {l1 : Option AV} {o : OId} {L2 : List (Nat × AV)} {St : List AV} {S : SS} : ev c 1 97 [some (aR o), l1] L2 St S = ev c 1 98 [some (aR o), l1] L2 (aR o :: St) S := ev_go i1_97 rfl
theorem i1_98 : insAt 1 98 = some (.getfield 38, 3, (4, 8, 0, 0), 30) := rfl
theorem s1_98 {c : Nat → List AV → SS → Option Out} {l0 l1 : Option AV} {j t : Nat} {L2 : List (Nat × AV)} {St : List AV} {S : SS} : ev c 1 98 [l0, l1] L2 (aR (4, j, t) :: St) S = ev c 1 101 [l0, l1] L2 (S.2.2.1 (4, j, t) 8 :: St) S := ev_go i1_98 rfl
theorem i1_101 : insAt 1 101 = some (.iload_n 1, 1, (0, 0, 0, 0), 0) := rfl
theorem s1_101 {c : Nat → List AV → SS → Option Out} {l0 : Option AV} {x : Int32} {L2 : List (Nat × AV)} {St : List AV} {S : SS} : ev c 1 101 [l0, some (aI x)] L2 St S = ev c 1 102 [l0, some (aI x)] L2 (aI x :: St) S := ev_go i1_101 rfl
theorem i1_102 : insAt 1 102 = some (.new 36, 3, (10, 0, 0, 0), 29) := rfl
theorem i1_105 : insAt 1 105 = some (.dup, 1, (0, 0, 0, 0), 0) := rfl
theorem s1_105 {c : Nat → List AV → SS → Option Out} {l0 l1 : Option AV} {x : OId} {L2 : List (Nat × AV)} {St : List AV} {S : SS} : ev c 1 105 [l0, l1] L2 (aR x :: St) S = ev c 1 106 [l0, l1] L2 (aR x :: aR x :: St) S := ev_go i1_105 rfl
theorem i1_106 : insAt 1 106 = some (.invokespecial 42, 3, (2, 0, 6, 10), 31) := rfl
theorem s1_106 {c : Nat → List AV → SS → Option Out} {l0 l1 : Option AV} {t0 t1 t2 : AV} {j t : Nat} {L2 : List (Nat × AV)} {S : SS} : ev c 1 106 [l0, l1] L2 [aR (10, j, t), t0, t1, t2] S = ck (c 2 [aR (10, j, t)] S) (fun v S' => ev c 1 109 [l0, l1] L2 (v.toList ++ [t0, t1, t2]) S') := ev_call i1_106 rfl
theorem i1_109 : insAt 1 109 = some (.aastore, 1, (0, 0, 0, 0), 0) := rfl
theorem i1_110 : insAt 1 110 = some (.iinc 1 1, 3, (0, 0, 0, 0), 0) := rfl
theorem s1_110 {c : Nat → List AV → SS → Option Out} {l0 : Option AV} {x : Int32} {L2 : List (Nat × AV)} {St : List AV} {S : SS} : ev c 1 110 [l0, some (aI x)] L2 St S = ev c 1 113 [l0, some (aI (x + 1))] (kil L2 1) St S := ev_go i1_110 rfl
theorem i1_113 : insAt 1 113 = some (.goto (-25), 3, (0, 0, 0, 0), 0) := rfl
theorem s1_113 {c : Nat → List AV → SS → Option Out} {l0 l1 : Option AV} {L2 : List (Nat × AV)} {St : List AV} {S : SS} : ev c 1 113 [l0, l1] L2 St S = ev c 1 88 [l0, l1] L2 St S := ev_go i1_113 rfl
theorem i1_116 : insAt 1 116 = some (.return_, 1, (0, 0, 0, 0), 0) := rfl
theorem s1_116 {c : Nat → List AV → SS → Option Out} {l0 l1 : Option AV} {L2 : List (Nat × AV)} {S : SS} : ev c 1 116 [l0, l1] L2 [] S = some (.inl none, S) := ev_end i1_116 rfl
theorem m1 {d : Nat} {o : OId} {S : SS} : evm (d + 1) 1 [aR o] S = ev (evm d) 1 0 [some (aR o), none] [] [] S := evm_s (n := 2) rfl (Nat.le_of_ble_eq_true rfl) rfl rfl
/-! FrequencyOffice$Station.<init>()V -/
theorem i2_0 : insAt 2 0 = some (.aload_n 0, 1, (0, 0, 0, 0), 0) := rfl
theorem s2_0 {c : Nat → List AV → SS → Option Out} {o : OId} {L2 : List (Nat × AV)} {St : List AV} {S : SS} : ev c 2 0 [some (aR o)] L2 St S = ev c 2 1 [some (aR o)] L2 (aR o :: St) S := ev_go i2_0 rfl
theorem i2_1 : insAt 2 1 = some (.invokespecial 1, 3, (0, 0, 20, 0), 37) := rfl
theorem s2_1 {c : Nat → List AV → SS → Option Out} {l0 : Option AV} {j t : Nat} {L2 : List (Nat × AV)} {S : SS} : ev c 2 1 [l0] L2 [aR (10, j, t)] S = ev c 2 4 [l0] L2 [] S := ev_go i2_1 rfl
theorem i2_4 : insAt 2 4 = some (.return_, 1, (0, 0, 0, 0), 0) := rfl
theorem s2_4 {c : Nat → List AV → SS → Option Out} {l0 : Option AV} {L2 : List (Nat × AV)} {S : SS} : ev c 2 4 [l0] L2 [] S = some (.inl none, S) := ev_end i2_4 rfl
theorem m2 {d : Nat} {o : OId} {S : SS} : evm (d + 1) 2 [aR o] S = ev (evm d) 2 0 [some (aR o)] [] [] S := evm_s (n := 1) rfl (Nat.le_of_ble_eq_true rfl) rfl rfl
/-! FrequencyOffice$Plan.<init>()V -/
theorem i3_0 : insAt 3 0 = some (.aload_n 0, 1, (0, 0, 0, 0), 0) := rfl
theorem s3_0 {c : Nat → List AV → SS → Option Out} {o : OId} {L2 : List (Nat × AV)} {St : List AV} {S : SS} : ev c 3 0 [some (aR o)] L2 St S = ev c 3 1 [some (aR o)] L2 (aR o :: St) S := ev_go i3_0 rfl
theorem i3_1 : insAt 3 1 = some (.invokespecial 3, 3, (0, 0, 20, 0), 38) := rfl
theorem s3_1 {c : Nat → List AV → SS → Option Out} {l0 : Option AV} {j t : Nat} {L2 : List (Nat × AV)} {S : SS} : ev c 3 1 [l0] L2 [aR (7, j, t)] S = ev c 3 4 [l0] L2 [] S := ev_go i3_1 rfl
theorem i3_4 : insAt 3 4 = some (.aload_n 0, 1, (0, 0, 0, 0), 0) := rfl
theorem s3_4 {c : Nat → List AV → SS → Option Out} {o : OId} {L2 : List (Nat × AV)} {St : List AV} {S : SS} : ev c 3 4 [some (aR o)] L2 St S = ev c 3 5 [some (aR o)] L2 (aR o :: St) S := ev_go i3_4 rfl
theorem i3_5 : insAt 3 5 = some (.iconst (-1), 1, (0, 0, 0, 0), 0) := rfl
theorem s3_5 {c : Nat → List AV → SS → Option Out} {l0 : Option AV} {L2 : List (Nat × AV)} {St : List AV} {S : SS} : ev c 3 5 [l0] L2 St S = ev c 3 6 [l0] L2 (aI (-1) :: St) S := ev_go i3_5 rfl
theorem i3_6 : insAt 3 6 = some (.putfield 9, 3, (7, 0, 0, 0), 39) := rfl
theorem s3_6 {c : Nat → List AV → SS → Option Out} {l0 : Option AV} {j t : Nat} {x : Int32} {L2 : List (Nat × AV)} {St : List AV} {S : SS} : ev c 3 6 [l0] L2 (aI x :: aR (7, j, t) :: St) S = ev c 3 9 [l0] L2 St (setI S.1 (7, j, t) 0 x, S.2) := ev_go i3_6 rfl
theorem i3_9 : insAt 3 9 = some (.aload_n 0, 1, (0, 0, 0, 0), 0) := rfl
theorem s3_9 {c : Nat → List AV → SS → Option Out} {o : OId} {L2 : List (Nat × AV)} {St : List AV} {S : SS} : ev c 3 9 [some (aR o)] L2 St S = ev c 3 10 [some (aR o)] L2 (aR o :: St) S := ev_go i3_9 rfl
theorem i3_10 : insAt 3 10 = some (.iconst (-1), 1, (0, 0, 0, 0), 0) := rfl
theorem s3_10 {c : Nat → List AV → SS → Option Out} {l0 : Option AV} {L2 : List (Nat × AV)} {St : List AV} {S : SS} : ev c 3 10 [l0] L2 St S = ev c 3 11 [l0] L2 (aI (-1) :: St) S := ev_go i3_10 rfl
theorem i3_11 : insAt 3 11 = some (.putfield 15, 3, (7, 1, 0, 0), 40) := rfl
theorem s3_11 {c : Nat → List AV → SS → Option Out} {l0 : Option AV} {j t : Nat} {x : Int32} {L2 : List (Nat × AV)} {St : List AV} {S : SS} : ev c 3 11 [l0] L2 (aI x :: aR (7, j, t) :: St) S = ev c 3 14 [l0] L2 St (setI S.1 (7, j, t) 1 x, S.2) := ev_go i3_11 rfl
theorem i3_14 : insAt 3 14 = some (.aload_n 0, 1, (0, 0, 0, 0), 0) := rfl
theorem s3_14 {c : Nat → List AV → SS → Option Out} {o : OId} {L2 : List (Nat × AV)} {St : List AV} {S : SS} : ev c 3 14 [some (aR o)] L2 St S = ev c 3 15 [some (aR o)] L2 (aR o :: St) S := ev_go i3_14 rfl
theorem i3_15 : insAt 3 15 = some (.iconst 2, 1, (0, 0, 0, 0), 0) := rfl
theorem s3_15 {c : Nat → List AV → SS → Option Out} {l0 : Option AV} {L2 : List (Nat × AV)} {St : List AV} {S : SS} : ev c 3 15 [l0] L2 St S = ev c 3 16 [l0] L2 (aI 2 :: St) S := ev_go i3_15 rfl
theorem i3_16 : insAt 3 16 = some (.newarray .int, 2, (0, 0, 0, 0), 0) := rfl
theorem i3_18 : insAt 3 18 = some (.putfield 18, 3, (7, 2, 0, 0), 41) := rfl
theorem s3_18 {c : Nat → List AV → SS → Option Out} {l0 : Option AV} {j t : Nat} {p : OId} {L2 : List (Nat × AV)} {St : List AV} {S : SS} : ev c 3 18 [l0] L2 (aR p :: aR (7, j, t) :: St) S = ev c 3 21 [l0] L2 St (S.1, S.2.1, setV S.2.2.1 (7, j, t) 2 (aR p), S.2.2.2) := ev_go i3_18 rfl
theorem i3_21 : insAt 3 21 = some (.aload_n 0, 1, (0, 0, 0, 0), 0) := rfl
theorem s3_21 {c : Nat → List AV → SS → Option Out} {o : OId} {L2 : List (Nat × AV)} {St : List AV} {S : SS} : ev c 3 21 [some (aR o)] L2 St S = ev c 3 22 [some (aR o)] L2 (aR o :: St) S := ev_go i3_21 rfl
theorem i3_22 : insAt 3 22 = some (.iconst 2, 1, (0, 0, 0, 0), 0) := rfl
theorem s3_22 {c : Nat → List AV → SS → Option Out} {l0 : Option AV} {L2 : List (Nat × AV)} {St : List AV} {S : SS} : ev c 3 22 [l0] L2 St S = ev c 3 23 [l0] L2 (aI 2 :: St) S := ev_go i3_22 rfl
theorem i3_23 : insAt 3 23 = some (.newarray .int, 2, (0, 0, 0, 0), 0) := rfl
theorem i3_25 : insAt 3 25 = some (.putfield 22, 3, (7, 3, 0, 0), 42) := rfl
theorem s3_25 {c : Nat → List AV → SS → Option Out} {l0 : Option AV} {j t : Nat} {p : OId} {L2 : List (Nat × AV)} {St : List AV} {S : SS} : ev c 3 25 [l0] L2 (aR p :: aR (7, j, t) :: St) S = ev c 3 28 [l0] L2 St (S.1, S.2.1, setV S.2.2.1 (7, j, t) 3 (aR p), S.2.2.2) := ev_go i3_25 rfl
theorem i3_28 : insAt 3 28 = some (.aload_n 0, 1, (0, 0, 0, 0), 0) := rfl
theorem s3_28 {c : Nat → List AV → SS → Option Out} {o : OId} {L2 : List (Nat × AV)} {St : List AV} {S : SS} : ev c 3 28 [some (aR o)] L2 St S = ev c 3 29 [some (aR o)] L2 (aR o :: St) S := ev_go i3_28 rfl
theorem i3_29 : insAt 3 29 = some (.iconst 2, 1, (0, 0, 0, 0), 0) := rfl
theorem s3_29 {c : Nat → List AV → SS → Option Out} {l0 : Option AV} {L2 : List (Nat × AV)} {St : List AV} {S : SS} : ev c 3 29 [l0] L2 St S = ev c 3 30 [l0] L2 (aI 2 :: St) S := ev_go i3_29 rfl
theorem i3_30 : insAt 3 30 = some (.newarray .int, 2, (0, 0, 0, 0), 0) := rfl
theorem i3_32 : insAt 3 32 = some (.putfield 25, 3, (7, 4, 0, 0), 43) := rfl
theorem s3_32 {c : Nat → List AV → SS → Option Out} {l0 : Option AV} {j t : Nat} {p : OId} {L2 : List (Nat × AV)} {St : List AV} {S : SS} : ev c 3 32 [l0] L2 (aR p :: aR (7, j, t) :: St) S = ev c 3 35 [l0] L2 St (S.1, S.2.1, setV S.2.2.1 (7, j, t) 4 (aR p), S.2.2.2) := ev_go i3_32 rfl
theorem i3_35 : insAt 3 35 = some (.return_, 1, (0, 0, 0, 0), 0) := rfl
theorem s3_35 {c : Nat → List AV → SS → Option Out} {l0 : Option AV} {L2 : List (Nat × AV)} {S : SS} : ev c 3 35 [l0] L2 [] S = some (.inl none, S) := ev_end i3_35 rfl
theorem m3 {d : Nat} {o : OId} {S : SS} : evm (d + 1) 3 [aR o] S = ev (evm d) 3 0 [some (aR o)] [] [] S := evm_s (n := 1) rfl (Nat.le_of_ble_eq_true rfl) rfl rfl
/-! FrequencyOffice$History.<init>()V -/
theorem i4_0 : insAt 4 0 = some (.aload_n 0, 1, (0, 0, 0, 0), 0) := rfl
theorem s4_0 {c : Nat → List AV → SS → Option Out} {l1 : Option AV} {o : OId} {L2 : List (Nat × AV)} {St : List AV} {S : SS} : ev c 4 0 [some (aR o), l1] L2 St S = ev c 4 1 [some (aR o), l1] L2 (aR o :: St) S := ev_go i4_0 rfl
theorem i4_1 : insAt 4 1 = some (.invokespecial 3, 3, (0, 0, 20, 0), 44) := rfl
theorem s4_1 {c : Nat → List AV → SS → Option Out} {l0 l1 : Option AV} {j t : Nat} {L2 : List (Nat × AV)} {S : SS} : ev c 4 1 [l0, l1] L2 [aR (5, j, t)] S = ev c 4 4 [l0, l1] L2 [] S := ev_go i4_1 rfl
theorem i4_4 : insAt 4 4 = some (.aload_n 0, 1, (0, 0, 0, 0), 0) := rfl
theorem s4_4 {c : Nat → List AV → SS → Option Out} {l1 : Option AV} {o : OId} {L2 : List (Nat × AV)} {St : List AV} {S : SS} : ev c 4 4 [some (aR o), l1] L2 St S = ev c 4 5 [some (aR o), l1] L2 (aR o :: St) S := ev_go i4_4 rfl
theorem i4_5 : insAt 4 5 = some (.bipush 6, 2, (0, 0, 0, 0), 0) := rfl
theorem s4_5 {c : Nat → List AV → SS → Option Out} {l0 l1 : Option AV} {L2 : List (Nat × AV)} {St : List AV} {S : SS} : ev c 4 5 [l0, l1] L2 St S = ev c 4 7 [l0, l1] L2 (aI 6 :: St) S := ev_go i4_5 rfl
theorem i4_7 : insAt 4 7 = some (.anewarray 9, 3, (1, 0, 0, 0), 45) := rfl
theorem i4_10 : insAt 4 10 = some (.putfield 11, 3, (5, 0, 0, 0), 46) := rfl
theorem s4_10 {c : Nat → List AV → SS → Option Out} {l0 l1 : Option AV} {j t : Nat} {p : OId} {L2 : List (Nat × AV)} {St : List AV} {S : SS} : ev c 4 10 [l0, l1] L2 (aR p :: aR (5, j, t) :: St) S = ev c 4 13 [l0, l1] L2 St (S.1, S.2.1, setV S.2.2.1 (5, j, t) 0 (aR p), S.2.2.2) := ev_go i4_10 rfl
theorem i4_13 : insAt 4 13 = some (.aload_n 0, 1, (0, 0, 0, 0), 0) := rfl
theorem s4_13 {c : Nat → List AV → SS → Option Out} {l1 : Option AV} {o : OId} {L2 : List (Nat × AV)} {St : List AV} {S : SS} : ev c 4 13 [some (aR o), l1] L2 St S = ev c 4 14 [some (aR o), l1] L2 (aR o :: St) S := ev_go i4_13 rfl
theorem i4_14 : insAt 4 14 = some (.iconst 0, 1, (0, 0, 0, 0), 0) := rfl
theorem s4_14 {c : Nat → List AV → SS → Option Out} {l0 l1 : Option AV} {L2 : List (Nat × AV)} {St : List AV} {S : SS} : ev c 4 14 [l0, l1] L2 St S = ev c 4 15 [l0, l1] L2 (aI 0 :: St) S := ev_go i4_14 rfl
theorem i4_15 : insAt 4 15 = some (.putfield 17, 3, (5, 1, 0, 0), 47) := rfl
theorem s4_15 {c : Nat → List AV → SS → Option Out} {l0 l1 : Option AV} {j t : Nat} {x : Int32} {L2 : List (Nat × AV)} {St : List AV} {S : SS} : ev c 4 15 [l0, l1] L2 (aI x :: aR (5, j, t) :: St) S = ev c 4 18 [l0, l1] L2 St (setI S.1 (5, j, t) 1 x, S.2) := ev_go i4_15 rfl
theorem i4_18 : insAt 4 18 = some (.aload_n 0, 1, (0, 0, 0, 0), 0) := rfl
theorem s4_18 {c : Nat → List AV → SS → Option Out} {l1 : Option AV} {o : OId} {L2 : List (Nat × AV)} {St : List AV} {S : SS} : ev c 4 18 [some (aR o), l1] L2 St S = ev c 4 19 [some (aR o), l1] L2 (aR o :: St) S := ev_go i4_18 rfl
theorem i4_19 : insAt 4 19 = some (.iconst 0, 1, (0, 0, 0, 0), 0) := rfl
theorem s4_19 {c : Nat → List AV → SS → Option Out} {l0 l1 : Option AV} {L2 : List (Nat × AV)} {St : List AV} {S : SS} : ev c 4 19 [l0, l1] L2 St S = ev c 4 20 [l0, l1] L2 (aI 0 :: St) S := ev_go i4_19 rfl
theorem i4_20 : insAt 4 20 = some (.putfield 21, 3, (5, 2, 0, 0), 48) := rfl
theorem s4_20 {c : Nat → List AV → SS → Option Out} {l0 l1 : Option AV} {j t : Nat} {x : Int32} {L2 : List (Nat × AV)} {St : List AV} {S : SS} : ev c 4 20 [l0, l1] L2 (aI x :: aR (5, j, t) :: St) S = ev c 4 23 [l0, l1] L2 St (setI S.1 (5, j, t) 2 x, S.2) := ev_go i4_20 rfl
theorem i4_23 : insAt 4 23 = some (.iconst 0, 1, (0, 0, 0, 0), 0) := rfl
theorem s4_23 {c : Nat → List AV → SS → Option Out} {l0 l1 : Option AV} {L2 : List (Nat × AV)} {St : List AV} {S : SS} : ev c 4 23 [l0, l1] L2 St S = ev c 4 24 [l0, l1] L2 (aI 0 :: St) S := ev_go i4_23 rfl
theorem i4_24 : insAt 4 24 = some (.istore_n 1, 1, (0, 0, 0, 0), 0) := rfl
theorem s4_24 {c : Nat → List AV → SS → Option Out} {l0 l1 : Option AV} {x : Int32} {L2 : List (Nat × AV)} {St : List AV} {S : SS} : ev c 4 24 [l0, l1] L2 (aI x :: St) S = ev c 4 25 [l0, some (aI x)] (kil L2 1) St S := ev_go i4_24 rfl
theorem i4_25 : insAt 4 25 = some (.iload_n 1, 1, (0, 0, 0, 0), 0) := rfl
theorem s4_25 {c : Nat → List AV → SS → Option Out} {l0 : Option AV} {x : Int32} {L2 : List (Nat × AV)} {St : List AV} {S : SS} : ev c 4 25 [l0, some (aI x)] L2 St S = ev c 4 26 [l0, some (aI x)] L2 (aI x :: St) S := ev_go i4_25 rfl
theorem i4_26 : insAt 4 26 = some (.aload_n 0, 1, (0, 0, 0, 0), 0) := rfl
theorem s4_26 {c : Nat → List AV → SS → Option Out} {l1 : Option AV} {o : OId} {L2 : List (Nat × AV)} {St : List AV} {S : SS} : ev c 4 26 [some (aR o), l1] L2 St S = ev c 4 27 [some (aR o), l1] L2 (aR o :: St) S := ev_go i4_26 rfl
theorem i4_27 : insAt 4 27 = some (.getfield 11, 3, (5, 0, 0, 0), 46) := rfl
theorem s4_27 {c : Nat → List AV → SS → Option Out} {l0 l1 : Option AV} {j t : Nat} {L2 : List (Nat × AV)} {St : List AV} {S : SS} : ev c 4 27 [l0, l1] L2 (aR (5, j, t) :: St) S = ev c 4 30 [l0, l1] L2 (S.2.2.1 (5, j, t) 0 :: St) S := ev_go i4_27 rfl
theorem i4_30 : insAt 4 30 = some (.arraylength, 1, (0, 0, 0, 0), 0) := rfl
theorem s4_30 {c : Nat → List AV → SS → Option Out} {l0 l1 : Option AV} {o : OId} {L2 : List (Nat × AV)} {St : List AV} {S : SS} : ev c 4 30 [l0, l1] L2 (aR o :: St) S = kN o (fun x => ev c 4 31 [l0, l1] L2 (aI x :: St) S) := ev_alen i4_30
theorem i4_31 : insAt 4 31 = some (.if_icmp .ge 22, 3, (0, 0, 0, 0), 0) := rfl
theorem s4_31 {c : Nat → List AV → SS → Option Out} {l0 l1 : Option AV} {x y : Int32} {L2 : List (Nat × AV)} {St : List AV} {S : SS} : ev c 4 31 [l0, l1] L2 (aI y :: aI x :: St) S = if y ≤ x then ev c 4 53 [l0, l1] L2 St S else ev c 4 34 [l0, l1] L2 St S := ev_br i4_31 rfl
theorem i4_34 : insAt 4 34 = some (.aload_n 0, 1, (0, 0, 0, 0), 0) := rfl
theorem s4_34 {c : Nat → List AV → SS → Option Out} {l1 : Option AV} {o : OId} {L2 : List (Nat × AV)} {St : List AV} {S : SS} : ev c 4 34 [some (aR o), l1] L2 St S = ev c 4 35 [some (aR o), l1] L2 (aR o :: St) S := ev_go i4_34 rfl
theorem i4_35 : insAt 4 35 = some (.getfield 11, 3, (5, 0, 0, 0), 46) := rfl
theorem s4_35 {c : Nat → List AV → SS → Option Out} {l0 l1 : Option AV} {j t : Nat} {L2 : List (Nat × AV)} {St : List AV} {S : SS} : ev c 4 35 [l0, l1] L2 (aR (5, j, t) :: St) S = ev c 4 38 [l0, l1] L2 (S.2.2.1 (5, j, t) 0 :: St) S := ev_go i4_35 rfl
theorem i4_38 : insAt 4 38 = some (.iload_n 1, 1, (0, 0, 0, 0), 0) := rfl
theorem s4_38 {c : Nat → List AV → SS → Option Out} {l0 : Option AV} {x : Int32} {L2 : List (Nat × AV)} {St : List AV} {S : SS} : ev c 4 38 [l0, some (aI x)] L2 St S = ev c 4 39 [l0, some (aI x)] L2 (aI x :: St) S := ev_go i4_38 rfl
theorem i4_39 : insAt 4 39 = some (.new 9, 3, (4, 0, 0, 0), 45) := rfl
theorem i4_42 : insAt 4 42 = some (.dup, 1, (0, 0, 0, 0), 0) := rfl
theorem s4_42 {c : Nat → List AV → SS → Option Out} {l0 l1 : Option AV} {x : OId} {L2 : List (Nat × AV)} {St : List AV} {S : SS} : ev c 4 42 [l0, l1] L2 (aR x :: St) S = ev c 4 43 [l0, l1] L2 (aR x :: aR x :: St) S := ev_go i4_42 rfl
theorem i4_43 : insAt 4 43 = some (.invokespecial 24, 3, (1, 0, 6, 4), 49) := rfl
theorem s4_43 {c : Nat → List AV → SS → Option Out} {l0 l1 : Option AV} {t0 t1 t2 : AV} {j t : Nat} {L2 : List (Nat × AV)} {S : SS} : ev c 4 43 [l0, l1] L2 [aR (4, j, t), t0, t1, t2] S = ck (c 1 [aR (4, j, t)] S) (fun v S' => ev c 4 46 [l0, l1] L2 (v.toList ++ [t0, t1, t2]) S') := ev_call i4_43 rfl
theorem i4_46 : insAt 4 46 = some (.aastore, 1, (0, 0, 0, 0), 0) := rfl
theorem i4_47 : insAt 4 47 = some (.iinc 1 1, 3, (0, 0, 0, 0), 0) := rfl
theorem s4_47 {c : Nat → List AV → SS → Option Out} {l0 : Option AV} {x : Int32} {L2 : List (Nat × AV)} {St : List AV} {S : SS} : ev c 4 47 [l0, some (aI x)] L2 St S = ev c 4 50 [l0, some (aI (x + 1))] (kil L2 1) St S := ev_go i4_47 rfl
theorem i4_50 : insAt 4 50 = some (.goto (-25), 3, (0, 0, 0, 0), 0) := rfl
theorem s4_50 {c : Nat → List AV → SS → Option Out} {l0 l1 : Option AV} {L2 : List (Nat × AV)} {St : List AV} {S : SS} : ev c 4 50 [l0, l1] L2 St S = ev c 4 25 [l0, l1] L2 St S := ev_go i4_50 rfl
theorem i4_53 : insAt 4 53 = some (.return_, 1, (0, 0, 0, 0), 0) := rfl
theorem s4_53 {c : Nat → List AV → SS → Option Out} {l0 l1 : Option AV} {L2 : List (Nat × AV)} {S : SS} : ev c 4 53 [l0, l1] L2 [] S = some (.inl none, S) := ev_end i4_53 rfl
theorem m4 {d : Nat} {o : OId} {S : SS} : evm (d + 1) 4 [aR o] S = ev (evm d) 4 0 [some (aR o), none] [] [] S := evm_s (n := 2) rfl (Nat.le_of_ble_eq_true rfl) rfl rfl
/-! FrequencyOffice$Net.<init>()V -/
theorem i5_0 : insAt 5 0 = some (.aload_n 0, 1, (0, 0, 0, 0), 0) := rfl
theorem s5_0 {c : Nat → List AV → SS → Option Out} {o : OId} {L2 : List (Nat × AV)} {St : List AV} {S : SS} : ev c 5 0 [some (aR o)] L2 St S = ev c 5 1 [some (aR o)] L2 (aR o :: St) S := ev_go i5_0 rfl
theorem i5_1 : insAt 5 1 = some (.invokespecial 3, 3, (0, 0, 20, 0), 50) := rfl
theorem s5_1 {c : Nat → List AV → SS → Option Out} {l0 : Option AV} {j t : Nat} {L2 : List (Nat × AV)} {S : SS} : ev c 5 1 [l0] L2 [aR (6, j, t)] S = ev c 5 4 [l0] L2 [] S := ev_go i5_1 rfl
theorem i5_4 : insAt 5 4 = some (.aload_n 0, 1, (0, 0, 0, 0), 0) := rfl
theorem s5_4 {c : Nat → List AV → SS → Option Out} {o : OId} {L2 : List (Nat × AV)} {St : List AV} {S : SS} : ev c 5 4 [some (aR o)] L2 St S = ev c 5 5 [some (aR o)] L2 (aR o :: St) S := ev_go i5_4 rfl
theorem i5_5 : insAt 5 5 = some (.iconst 0, 1, (0, 0, 0, 0), 0) := rfl
theorem s5_5 {c : Nat → List AV → SS → Option Out} {l0 : Option AV} {L2 : List (Nat × AV)} {St : List AV} {S : SS} : ev c 5 5 [l0] L2 St S = ev c 5 6 [l0] L2 (aI 0 :: St) S := ev_go i5_5 rfl
theorem i5_6 : insAt 5 6 = some (.putfield 9, 3, (6, 0, 0, 0), 51) := rfl
theorem s5_6 {c : Nat → List AV → SS → Option Out} {l0 : Option AV} {j t : Nat} {x : Int32} {L2 : List (Nat × AV)} {St : List AV} {S : SS} : ev c 5 6 [l0] L2 (aI x :: aR (6, j, t) :: St) S = ev c 5 9 [l0] L2 St (setI S.1 (6, j, t) 0 x, S.2) := ev_go i5_6 rfl
theorem i5_9 : insAt 5 9 = some (.aload_n 0, 1, (0, 0, 0, 0), 0) := rfl
theorem s5_9 {c : Nat → List AV → SS → Option Out} {o : OId} {L2 : List (Nat × AV)} {St : List AV} {S : SS} : ev c 5 9 [some (aR o)] L2 St S = ev c 5 10 [some (aR o)] L2 (aR o :: St) S := ev_go i5_9 rfl
theorem i5_10 : insAt 5 10 = some (.bipush 7, 2, (0, 0, 0, 0), 0) := rfl
theorem s5_10 {c : Nat → List AV → SS → Option Out} {l0 : Option AV} {L2 : List (Nat × AV)} {St : List AV} {S : SS} : ev c 5 10 [l0] L2 St S = ev c 5 12 [l0] L2 (aI 7 :: St) S := ev_go i5_10 rfl
theorem i5_12 : insAt 5 12 = some (.newarray .int, 2, (0, 0, 0, 0), 0) := rfl
theorem i5_14 : insAt 5 14 = some (.putfield 15, 3, (6, 1, 0, 0), 52) := rfl
theorem s5_14 {c : Nat → List AV → SS → Option Out} {l0 : Option AV} {j t : Nat} {p : OId} {L2 : List (Nat × AV)} {St : List AV} {S : SS} : ev c 5 14 [l0] L2 (aR p :: aR (6, j, t) :: St) S = ev c 5 17 [l0] L2 St (S.1, S.2.1, setV S.2.2.1 (6, j, t) 1 (aR p), S.2.2.2) := ev_go i5_14 rfl
theorem i5_17 : insAt 5 17 = some (.aload_n 0, 1, (0, 0, 0, 0), 0) := rfl
theorem s5_17 {c : Nat → List AV → SS → Option Out} {o : OId} {L2 : List (Nat × AV)} {St : List AV} {S : SS} : ev c 5 17 [some (aR o)] L2 St S = ev c 5 18 [some (aR o)] L2 (aR o :: St) S := ev_go i5_17 rfl
theorem i5_18 : insAt 5 18 = some (.bipush 7, 2, (0, 0, 0, 0), 0) := rfl
theorem s5_18 {c : Nat → List AV → SS → Option Out} {l0 : Option AV} {L2 : List (Nat × AV)} {St : List AV} {S : SS} : ev c 5 18 [l0] L2 St S = ev c 5 20 [l0] L2 (aI 7 :: St) S := ev_go i5_18 rfl
theorem i5_20 : insAt 5 20 = some (.newarray .int, 2, (0, 0, 0, 0), 0) := rfl
theorem i5_22 : insAt 5 22 = some (.putfield 19, 3, (6, 2, 0, 0), 53) := rfl
theorem s5_22 {c : Nat → List AV → SS → Option Out} {l0 : Option AV} {j t : Nat} {p : OId} {L2 : List (Nat × AV)} {St : List AV} {S : SS} : ev c 5 22 [l0] L2 (aR p :: aR (6, j, t) :: St) S = ev c 5 25 [l0] L2 St (S.1, S.2.1, setV S.2.2.1 (6, j, t) 2 (aR p), S.2.2.2) := ev_go i5_22 rfl
theorem i5_25 : insAt 5 25 = some (.aload_n 0, 1, (0, 0, 0, 0), 0) := rfl
theorem s5_25 {c : Nat → List AV → SS → Option Out} {o : OId} {L2 : List (Nat × AV)} {St : List AV} {S : SS} : ev c 5 25 [some (aR o)] L2 St S = ev c 5 26 [some (aR o)] L2 (aR o :: St) S := ev_go i5_25 rfl
theorem i5_26 : insAt 5 26 = some (.bipush 7, 2, (0, 0, 0, 0), 0) := rfl
theorem s5_26 {c : Nat → List AV → SS → Option Out} {l0 : Option AV} {L2 : List (Nat × AV)} {St : List AV} {S : SS} : ev c 5 26 [l0] L2 St S = ev c 5 28 [l0] L2 (aI 7 :: St) S := ev_go i5_26 rfl
theorem i5_28 : insAt 5 28 = some (.newarray .int, 2, (0, 0, 0, 0), 0) := rfl
theorem i5_30 : insAt 5 30 = some (.putfield 22, 3, (6, 3, 0, 0), 54) := rfl
theorem s5_30 {c : Nat → List AV → SS → Option Out} {l0 : Option AV} {j t : Nat} {p : OId} {L2 : List (Nat × AV)} {St : List AV} {S : SS} : ev c 5 30 [l0] L2 (aR p :: aR (6, j, t) :: St) S = ev c 5 33 [l0] L2 St (S.1, S.2.1, setV S.2.2.1 (6, j, t) 3 (aR p), S.2.2.2) := ev_go i5_30 rfl
theorem i5_33 : insAt 5 33 = some (.aload_n 0, 1, (0, 0, 0, 0), 0) := rfl
theorem s5_33 {c : Nat → List AV → SS → Option Out} {o : OId} {L2 : List (Nat × AV)} {St : List AV} {S : SS} : ev c 5 33 [some (aR o)] L2 St S = ev c 5 34 [some (aR o)] L2 (aR o :: St) S := ev_go i5_33 rfl
theorem i5_34 : insAt 5 34 = some (.bipush 49, 2, (0, 0, 0, 0), 0) := rfl
theorem s5_34 {c : Nat → List AV → SS → Option Out} {l0 : Option AV} {L2 : List (Nat × AV)} {St : List AV} {S : SS} : ev c 5 34 [l0] L2 St S = ev c 5 36 [l0] L2 (aI 49 :: St) S := ev_go i5_34 rfl
theorem i5_36 : insAt 5 36 = some (.newarray .int, 2, (0, 0, 0, 0), 0) := rfl
theorem i5_38 : insAt 5 38 = some (.putfield 25, 3, (6, 4, 0, 0), 55) := rfl
theorem s5_38 {c : Nat → List AV → SS → Option Out} {l0 : Option AV} {j t : Nat} {p : OId} {L2 : List (Nat × AV)} {St : List AV} {S : SS} : ev c 5 38 [l0] L2 (aR p :: aR (6, j, t) :: St) S = ev c 5 41 [l0] L2 St (S.1, S.2.1, setV S.2.2.1 (6, j, t) 4 (aR p), S.2.2.2) := ev_go i5_38 rfl
theorem i5_41 : insAt 5 41 = some (.return_, 1, (0, 0, 0, 0), 0) := rfl
theorem s5_41 {c : Nat → List AV → SS → Option Out} {l0 : Option AV} {L2 : List (Nat × AV)} {S : SS} : ev c 5 41 [l0] L2 [] S = some (.inl none, S) := ev_end i5_41 rfl
theorem m5 {d : Nat} {o : OId} {S : SS} : evm (d + 1) 5 [aR o] S = ev (evm d) 5 0 [some (aR o)] [] [] S := evm_s (n := 1) rfl (Nat.le_of_ble_eq_true rfl) rfl rfl
/-! FrequencyOffice$Search.<init>(LFrequencyOffice$Net;)V -/
theorem i6_0 : insAt 6 0 = some (.aload_n 0, 1, (0, 0, 0, 0), 0) := rfl
theorem s6_0 {c : Nat → List AV → SS → Option Out} {l1 : Option AV} {o : OId} {L2 : List (Nat × AV)} {St : List AV} {S : SS} : ev c 6 0 [some (aR o), l1] L2 St S = ev c 6 1 [some (aR o), l1] L2 (aR o :: St) S := ev_go i6_0 rfl
theorem i6_1 : insAt 6 1 = some (.invokespecial 3, 3, (0, 0, 20, 0), 56) := rfl
theorem s6_1 {c : Nat → List AV → SS → Option Out} {l0 l1 : Option AV} {j t : Nat} {L2 : List (Nat × AV)} {S : SS} : ev c 6 1 [l0, l1] L2 [aR (8, j, t)] S = ev c 6 4 [l0, l1] L2 [] S := ev_go i6_1 rfl
theorem i6_4 : insAt 6 4 = some (.aload_n 0, 1, (0, 0, 0, 0), 0) := rfl
theorem s6_4 {c : Nat → List AV → SS → Option Out} {l1 : Option AV} {o : OId} {L2 : List (Nat × AV)} {St : List AV} {S : SS} : ev c 6 4 [some (aR o), l1] L2 St S = ev c 6 5 [some (aR o), l1] L2 (aR o :: St) S := ev_go i6_4 rfl
theorem i6_5 : insAt 6 5 = some (.new 9, 3, (7, 0, 0, 0), 57) := rfl
theorem i6_8 : insAt 6 8 = some (.dup, 1, (0, 0, 0, 0), 0) := rfl
theorem s6_8 {c : Nat → List AV → SS → Option Out} {l0 l1 : Option AV} {x : OId} {L2 : List (Nat × AV)} {St : List AV} {S : SS} : ev c 6 8 [l0, l1] L2 (aR x :: St) S = ev c 6 9 [l0, l1] L2 (aR x :: aR x :: St) S := ev_go i6_8 rfl
theorem i6_9 : insAt 6 9 = some (.invokespecial 11, 3, (3, 0, 6, 7), 58) := rfl
theorem s6_9 {c : Nat → List AV → SS → Option Out} {l0 l1 : Option AV} {t0 t1 : AV} {j t : Nat} {L2 : List (Nat × AV)} {S : SS} : ev c 6 9 [l0, l1] L2 [aR (7, j, t), t0, t1] S = ck (c 3 [aR (7, j, t)] S) (fun v S' => ev c 6 12 [l0, l1] L2 (v.toList ++ [t0, t1]) S') := ev_call i6_9 rfl
theorem i6_12 : insAt 6 12 = some (.putfield 12, 3, (8, 1, 0, 0), 59) := rfl
theorem s6_12 {c : Nat → List AV → SS → Option Out} {l0 l1 : Option AV} {j t : Nat} {p : OId} {L2 : List (Nat × AV)} {St : List AV} {S : SS} : ev c 6 12 [l0, l1] L2 (aR p :: aR (8, j, t) :: St) S = ev c 6 15 [l0, l1] L2 St (S.1, S.2.1, setV S.2.2.1 (8, j, t) 1 (aR p), S.2.2.2) := ev_go i6_12 rfl
theorem i6_15 : insAt 6 15 = some (.aload_n 0, 1, (0, 0, 0, 0), 0) := rfl
theorem s6_15 {c : Nat → List AV → SS → Option Out} {l1 : Option AV} {o : OId} {L2 : List (Nat × AV)} {St : List AV} {S : SS} : ev c 6 15 [some (aR o), l1] L2 St S = ev c 6 16 [some (aR o), l1] L2 (aR o :: St) S := ev_go i6_15 rfl
theorem i6_16 : insAt 6 16 = some (.bipush 7, 2, (0, 0, 0, 0), 0) := rfl
theorem s6_16 {c : Nat → List AV → SS → Option Out} {l0 l1 : Option AV} {L2 : List (Nat × AV)} {St : List AV} {S : SS} : ev c 6 16 [l0, l1] L2 St S = ev c 6 18 [l0, l1] L2 (aI 7 :: St) S := ev_go i6_16 rfl
theorem i6_18 : insAt 6 18 = some (.newarray .int, 2, (0, 0, 0, 0), 0) := rfl
theorem i6_20 : insAt 6 20 = some (.putfield 18, 3, (8, 2, 0, 0), 60) := rfl
theorem s6_20 {c : Nat → List AV → SS → Option Out} {l0 l1 : Option AV} {j t : Nat} {p : OId} {L2 : List (Nat × AV)} {St : List AV} {S : SS} : ev c 6 20 [l0, l1] L2 (aR p :: aR (8, j, t) :: St) S = ev c 6 23 [l0, l1] L2 St (S.1, S.2.1, setV S.2.2.1 (8, j, t) 2 (aR p), S.2.2.2) := ev_go i6_20 rfl
theorem i6_23 : insAt 6 23 = some (.aload_n 0, 1, (0, 0, 0, 0), 0) := rfl
theorem s6_23 {c : Nat → List AV → SS → Option Out} {l1 : Option AV} {o : OId} {L2 : List (Nat × AV)} {St : List AV} {S : SS} : ev c 6 23 [some (aR o), l1] L2 St S = ev c 6 24 [some (aR o), l1] L2 (aR o :: St) S := ev_go i6_23 rfl
theorem i6_24 : insAt 6 24 = some (.bipush 7, 2, (0, 0, 0, 0), 0) := rfl
theorem s6_24 {c : Nat → List AV → SS → Option Out} {l0 l1 : Option AV} {L2 : List (Nat × AV)} {St : List AV} {S : SS} : ev c 6 24 [l0, l1] L2 St S = ev c 6 26 [l0, l1] L2 (aI 7 :: St) S := ev_go i6_24 rfl
theorem i6_26 : insAt 6 26 = some (.newarray .boolean, 2, (0, 0, 0, 0), 0) := rfl
theorem i6_28 : insAt 6 28 = some (.putfield 22, 3, (8, 3, 0, 0), 61) := rfl
theorem s6_28 {c : Nat → List AV → SS → Option Out} {l0 l1 : Option AV} {j t : Nat} {p : OId} {L2 : List (Nat × AV)} {St : List AV} {S : SS} : ev c 6 28 [l0, l1] L2 (aR p :: aR (8, j, t) :: St) S = ev c 6 31 [l0, l1] L2 St (S.1, S.2.1, setV S.2.2.1 (8, j, t) 3 (aR p), S.2.2.2) := ev_go i6_28 rfl
theorem i6_31 : insAt 6 31 = some (.aload_n 0, 1, (0, 0, 0, 0), 0) := rfl
theorem s6_31 {c : Nat → List AV → SS → Option Out} {l1 : Option AV} {o : OId} {L2 : List (Nat × AV)} {St : List AV} {S : SS} : ev c 6 31 [some (aR o), l1] L2 St S = ev c 6 32 [some (aR o), l1] L2 (aR o :: St) S := ev_go i6_31 rfl
theorem i6_32 : insAt 6 32 = some (.sipush 2451, 3, (0, 0, 0, 0), 0) := rfl
theorem s6_32 {c : Nat → List AV → SS → Option Out} {l0 l1 : Option AV} {L2 : List (Nat × AV)} {St : List AV} {S : SS} : ev c 6 32 [l0, l1] L2 St S = ev c 6 35 [l0, l1] L2 (aI 2451 :: St) S := ev_go i6_32 rfl
theorem i6_35 : insAt 6 35 = some (.newarray .int, 2, (0, 0, 0, 0), 0) := rfl
theorem i6_37 : insAt 6 37 = some (.putfield 26, 3, (8, 4, 0, 0), 62) := rfl
theorem s6_37 {c : Nat → List AV → SS → Option Out} {l0 l1 : Option AV} {j t : Nat} {p : OId} {L2 : List (Nat × AV)} {St : List AV} {S : SS} : ev c 6 37 [l0, l1] L2 (aR p :: aR (8, j, t) :: St) S = ev c 6 40 [l0, l1] L2 St (S.1, S.2.1, setV S.2.2.1 (8, j, t) 4 (aR p), S.2.2.2) := ev_go i6_37 rfl
theorem i6_40 : insAt 6 40 = some (.aload_n 0, 1, (0, 0, 0, 0), 0) := rfl
theorem s6_40 {c : Nat → List AV → SS → Option Out} {l1 : Option AV} {o : OId} {L2 : List (Nat × AV)} {St : List AV} {S : SS} : ev c 6 40 [some (aR o), l1] L2 St S = ev c 6 41 [some (aR o), l1] L2 (aR o :: St) S := ev_go i6_40 rfl
theorem i6_41 : insAt 6 41 = some (.sipush 255, 3, (0, 0, 0, 0), 0) := rfl
theorem s6_41 {c : Nat → List AV → SS → Option Out} {l0 l1 : Option AV} {L2 : List (Nat × AV)} {St : List AV} {S : SS} : ev c 6 41 [l0, l1] L2 St S = ev c 6 44 [l0, l1] L2 (aI 255 :: St) S := ev_go i6_41 rfl
theorem i6_44 : insAt 6 44 = some (.putfield 29, 3, (8, 5, 0, 0), 63) := rfl
theorem s6_44 {c : Nat → List AV → SS → Option Out} {l0 l1 : Option AV} {j t : Nat} {x : Int32} {L2 : List (Nat × AV)} {St : List AV} {S : SS} : ev c 6 44 [l0, l1] L2 (aI x :: aR (8, j, t) :: St) S = ev c 6 47 [l0, l1] L2 St (setI S.1 (8, j, t) 5 x, S.2) := ev_go i6_44 rfl
theorem i6_47 : insAt 6 47 = some (.aload_n 0, 1, (0, 0, 0, 0), 0) := rfl
theorem s6_47 {c : Nat → List AV → SS → Option Out} {l1 : Option AV} {o : OId} {L2 : List (Nat × AV)} {St : List AV} {S : SS} : ev c 6 47 [some (aR o), l1] L2 St S = ev c 6 48 [some (aR o), l1] L2 (aR o :: St) S := ev_go i6_47 rfl
theorem i6_48 : insAt 6 48 = some (.iconst (-1), 1, (0, 0, 0, 0), 0) := rfl
theorem s6_48 {c : Nat → List AV → SS → Option Out} {l0 l1 : Option AV} {L2 : List (Nat × AV)} {St : List AV} {S : SS} : ev c 6 48 [l0, l1] L2 St S = ev c 6 49 [l0, l1] L2 (aI (-1) :: St) S := ev_go i6_48 rfl
theorem i6_49 : insAt 6 49 = some (.putfield 33, 3, (8, 6, 0, 0), 64) := rfl
theorem s6_49 {c : Nat → List AV → SS → Option Out} {l0 l1 : Option AV} {j t : Nat} {x : Int32} {L2 : List (Nat × AV)} {St : List AV} {S : SS} : ev c 6 49 [l0, l1] L2 (aI x :: aR (8, j, t) :: St) S = ev c 6 52 [l0, l1] L2 St (setI S.1 (8, j, t) 6 x, S.2) := ev_go i6_49 rfl
theorem i6_52 : insAt 6 52 = some (.aload_n 0, 1, (0, 0, 0, 0), 0) := rfl
theorem s6_52 {c : Nat → List AV → SS → Option Out} {l1 : Option AV} {o : OId} {L2 : List (Nat × AV)} {St : List AV} {S : SS} : ev c 6 52 [some (aR o), l1] L2 St S = ev c 6 53 [some (aR o), l1] L2 (aR o :: St) S := ev_go i6_52 rfl
theorem i6_53 : insAt 6 53 = some (.aload_n 1, 1, (0, 0, 0, 0), 0) := rfl
theorem s6_53 {c : Nat → List AV → SS → Option Out} {l0 : Option AV} {o : OId} {L2 : List (Nat × AV)} {St : List AV} {S : SS} : ev c 6 53 [l0, some (aR o)] L2 St S = ev c 6 54 [l0, some (aR o)] L2 (aR o :: St) S := ev_go i6_53 rfl
theorem i6_54 : insAt 6 54 = some (.putfield 36, 3, (8, 0, 0, 0), 65) := rfl
theorem s6_54 {c : Nat → List AV → SS → Option Out} {l0 l1 : Option AV} {j t : Nat} {p : OId} {L2 : List (Nat × AV)} {St : List AV} {S : SS} : ev c 6 54 [l0, l1] L2 (aR p :: aR (8, j, t) :: St) S = ev c 6 57 [l0, l1] L2 St (S.1, S.2.1, setV S.2.2.1 (8, j, t) 0 (aR p), S.2.2.2) := ev_go i6_54 rfl
theorem i6_57 : insAt 6 57 = some (.return_, 1, (0, 0, 0, 0), 0) := rfl
theorem s6_57 {c : Nat → List AV → SS → Option Out} {l0 l1 : Option AV} {L2 : List (Nat × AV)} {S : SS} : ev c 6 57 [l0, l1] L2 [] S = some (.inl none, S) := ev_end i6_57 rfl
theorem m6 {d : Nat} {o : OId} {a0 : OId} {S : SS} : evm (d + 1) 6 [aR o, aR a0] S = ev (evm d) 6 0 [some (aR o), some (aR a0)] [] [] S := evm_s (n := 2) rfl (Nat.le_of_ble_eq_true rfl) rfl rfl
/-! FrequencyOffice$Spans.<init>(LFrequencyOffice$Net;)V -/
theorem i7_0 : insAt 7 0 = some (.aload_n 0, 1, (0, 0, 0, 0), 0) := rfl
theorem s7_0 {c : Nat → List AV → SS → Option Out} {l1 : Option AV} {o : OId} {L2 : List (Nat × AV)} {St : List AV} {S : SS} : ev c 7 0 [some (aR o), l1] L2 St S = ev c 7 1 [some (aR o), l1] L2 (aR o :: St) S := ev_go i7_0 rfl
theorem i7_1 : insAt 7 1 = some (.invokespecial 3, 3, (0, 0, 20, 0), 66) := rfl
theorem s7_1 {c : Nat → List AV → SS → Option Out} {l0 l1 : Option AV} {j t : Nat} {L2 : List (Nat × AV)} {S : SS} : ev c 7 1 [l0, l1] L2 [aR (9, j, t)] S = ev c 7 4 [l0, l1] L2 [] S := ev_go i7_1 rfl
theorem i7_4 : insAt 7 4 = some (.aload_n 0, 1, (0, 0, 0, 0), 0) := rfl
theorem s7_4 {c : Nat → List AV → SS → Option Out} {l1 : Option AV} {o : OId} {L2 : List (Nat × AV)} {St : List AV} {S : SS} : ev c 7 4 [some (aR o), l1] L2 St S = ev c 7 5 [some (aR o), l1] L2 (aR o :: St) S := ev_go i7_4 rfl
theorem i7_5 : insAt 7 5 = some (.bipush 7, 2, (0, 0, 0, 0), 0) := rfl
theorem s7_5 {c : Nat → List AV → SS → Option Out} {l0 l1 : Option AV} {L2 : List (Nat × AV)} {St : List AV} {S : SS} : ev c 7 5 [l0, l1] L2 St S = ev c 7 7 [l0, l1] L2 (aI 7 :: St) S := ev_go i7_5 rfl
theorem i7_7 : insAt 7 7 = some (.newarray .int, 2, (0, 0, 0, 0), 0) := rfl
theorem i7_9 : insAt 7 9 = some (.putfield 9, 3, (9, 1, 0, 0), 67) := rfl
theorem s7_9 {c : Nat → List AV → SS → Option Out} {l0 l1 : Option AV} {j t : Nat} {p : OId} {L2 : List (Nat × AV)} {St : List AV} {S : SS} : ev c 7 9 [l0, l1] L2 (aR p :: aR (9, j, t) :: St) S = ev c 7 12 [l0, l1] L2 St (S.1, S.2.1, setV S.2.2.1 (9, j, t) 1 (aR p), S.2.2.2) := ev_go i7_9 rfl
theorem i7_12 : insAt 7 12 = some (.aload_n 0, 1, (0, 0, 0, 0), 0) := rfl
theorem s7_12 {c : Nat → List AV → SS → Option Out} {l1 : Option AV} {o : OId} {L2 : List (Nat × AV)} {St : List AV} {S : SS} : ev c 7 12 [some (aR o), l1] L2 St S = ev c 7 13 [some (aR o), l1] L2 (aR o :: St) S := ev_go i7_12 rfl
theorem i7_13 : insAt 7 13 = some (.bipush 49, 2, (0, 0, 0, 0), 0) := rfl
theorem s7_13 {c : Nat → List AV → SS → Option Out} {l0 l1 : Option AV} {L2 : List (Nat × AV)} {St : List AV} {S : SS} : ev c 7 13 [l0, l1] L2 St S = ev c 7 15 [l0, l1] L2 (aI 49 :: St) S := ev_go i7_13 rfl
theorem i7_15 : insAt 7 15 = some (.newarray .long, 2, (0, 0, 0, 0), 0) := rfl
theorem i7_17 : insAt 7 17 = some (.putfield 15, 3, (9, 2, 0, 0), 68) := rfl
theorem s7_17 {c : Nat → List AV → SS → Option Out} {l0 l1 : Option AV} {j t : Nat} {p : OId} {L2 : List (Nat × AV)} {St : List AV} {S : SS} : ev c 7 17 [l0, l1] L2 (aR p :: aR (9, j, t) :: St) S = ev c 7 20 [l0, l1] L2 St (S.1, S.2.1, setV S.2.2.1 (9, j, t) 2 (aR p), S.2.2.2) := ev_go i7_17 rfl
theorem i7_20 : insAt 7 20 = some (.aload_n 0, 1, (0, 0, 0, 0), 0) := rfl
theorem s7_20 {c : Nat → List AV → SS → Option Out} {l1 : Option AV} {o : OId} {L2 : List (Nat × AV)} {St : List AV} {S : SS} : ev c 7 20 [some (aR o), l1] L2 St S = ev c 7 21 [some (aR o), l1] L2 (aR o :: St) S := ev_go i7_20 rfl
theorem i7_21 : insAt 7 21 = some (.aload_n 1, 1, (0, 0, 0, 0), 0) := rfl
theorem s7_21 {c : Nat → List AV → SS → Option Out} {l0 : Option AV} {o : OId} {L2 : List (Nat × AV)} {St : List AV} {S : SS} : ev c 7 21 [l0, some (aR o)] L2 St S = ev c 7 22 [l0, some (aR o)] L2 (aR o :: St) S := ev_go i7_21 rfl
theorem i7_22 : insAt 7 22 = some (.putfield 19, 3, (9, 0, 0, 0), 69) := rfl
theorem s7_22 {c : Nat → List AV → SS → Option Out} {l0 l1 : Option AV} {j t : Nat} {p : OId} {L2 : List (Nat × AV)} {St : List AV} {S : SS} : ev c 7 22 [l0, l1] L2 (aR p :: aR (9, j, t) :: St) S = ev c 7 25 [l0, l1] L2 St (S.1, S.2.1, setV S.2.2.1 (9, j, t) 0 (aR p), S.2.2.2) := ev_go i7_22 rfl
theorem i7_25 : insAt 7 25 = some (.return_, 1, (0, 0, 0, 0), 0) := rfl
theorem s7_25 {c : Nat → List AV → SS → Option Out} {l0 l1 : Option AV} {L2 : List (Nat × AV)} {S : SS} : ev c 7 25 [l0, l1] L2 [] S = some (.inl none, S) := ev_end i7_25 rfl
theorem m7 {d : Nat} {o : OId} {a0 : OId} {S : SS} : evm (d + 1) 7 [aR o, aR a0] S = ev (evm d) 7 0 [some (aR o), some (aR a0)] [] [] S := evm_s (n := 2) rfl (Nat.le_of_ble_eq_true rfl) rfl rfl
/-! FrequencyOffice$Books.countLicensed()I -/
theorem i16_0 : insAt 16 0 = some (.iconst 0, 1, (0, 0, 0, 0), 0) := rfl
theorem s16_0 {c : Nat → List AV → SS → Option Out} {l0 l1 l2 : Option AV} {L2 : List (Nat × AV)} {St : List AV} {S : SS} : ev c 16 0 [l0, l1, l2] L2 St S = ev c 16 1 [l0, l1, l2] L2 (aI 0 :: St) S := ev_go i16_0 rfl
theorem i16_1 : insAt 16 1 = some (.istore_n 1, 1, (0, 0, 0, 0), 0) := rfl
theorem s16_1 {c : Nat → List AV → SS → Option Out} {l0 l1 l2 : Option AV} {x : Int32} {L2 : List (Nat × AV)} {St : List AV} {S : SS} : ev c 16 1 [l0, l1, l2] L2 (aI x :: St) S = ev c 16 2 [l0, some (aI x), l2] (kil L2 1) St S := ev_go i16_1 rfl
theorem i16_2 : insAt 16 2 = some (.iconst 0, 1, (0, 0, 0, 0), 0) := rfl
theorem s16_2 {c : Nat → List AV → SS → Option Out} {l0 l1 l2 : Option AV} {L2 : List (Nat × AV)} {St : List AV} {S : SS} : ev c 16 2 [l0, l1, l2] L2 St S = ev c 16 3 [l0, l1, l2] L2 (aI 0 :: St) S := ev_go i16_2 rfl
theorem i16_3 : insAt 16 3 = some (.istore_n 2, 1, (0, 0, 0, 0), 0) := rfl
theorem s16_3 {c : Nat → List AV → SS → Option Out} {l0 l1 l2 : Option AV} {x : Int32} {L2 : List (Nat × AV)} {St : List AV} {S : SS} : ev c 16 3 [l0, l1, l2] L2 (aI x :: St) S = ev c 16 4 [l0, l1, some (aI x)] (kil L2 2) St S := ev_go i16_3 rfl
theorem i16_4 : insAt 16 4 = some (.iload_n 2, 1, (0, 0, 0, 0), 0) := rfl
theorem s16_4 {c : Nat → List AV → SS → Option Out} {l0 l1 : Option AV} {x : Int32} {L2 : List (Nat × AV)} {St : List AV} {S : SS} : ev c 16 4 [l0, l1, some (aI x)] L2 St S = ev c 16 5 [l0, l1, some (aI x)] L2 (aI x :: St) S := ev_go i16_4 rfl
theorem i16_5 : insAt 16 5 = some (.aload_n 0, 1, (0, 0, 0, 0), 0) := rfl
theorem s16_5 {c : Nat → List AV → SS → Option Out} {l1 l2 : Option AV} {o : OId} {L2 : List (Nat × AV)} {St : List AV} {S : SS} : ev c 16 5 [some (aR o), l1, l2] L2 St S = ev c 16 6 [some (aR o), l1, l2] L2 (aR o :: St) S := ev_go i16_5 rfl
theorem i16_6 : insAt 16 6 = some (.getfield 33, 3, (4, 7, 0, 0), 28) := rfl
theorem s16_6 {c : Nat → List AV → SS → Option Out} {l0 l1 l2 : Option AV} {j t : Nat} {L2 : List (Nat × AV)} {St : List AV} {S : SS} : ev c 16 6 [l0, l1, l2] L2 (aR (4, j, t) :: St) S = ev c 16 9 [l0, l1, l2] L2 (aI (S.1 (4, j, t) 7) :: St) S := ev_go i16_6 rfl
theorem i16_9 : insAt 16 9 = some (.if_icmp .ge 28, 3, (0, 0, 0, 0), 0) := rfl
theorem s16_9 {c : Nat → List AV → SS → Option Out} {l0 l1 l2 : Option AV} {x y : Int32} {L2 : List (Nat × AV)} {St : List AV} {S : SS} : ev c 16 9 [l0, l1, l2] L2 (aI y :: aI x :: St) S = if y ≤ x then ev c 16 37 [l0, l1, l2] L2 St S else ev c 16 12 [l0, l1, l2] L2 St S := ev_br i16_9 rfl
theorem i16_12 : insAt 16 12 = some (.iload_n 1, 1, (0, 0, 0, 0), 0) := rfl
theorem s16_12 {c : Nat → List AV → SS → Option Out} {l0 l2 : Option AV} {x : Int32} {L2 : List (Nat × AV)} {St : List AV} {S : SS} : ev c 16 12 [l0, some (aI x), l2] L2 St S = ev c 16 13 [l0, some (aI x), l2] L2 (aI x :: St) S := ev_go i16_12 rfl
theorem i16_13 : insAt 16 13 = some (.aload_n 0, 1, (0, 0, 0, 0), 0) := rfl
theorem s16_13 {c : Nat → List AV → SS → Option Out} {l1 l2 : Option AV} {o : OId} {L2 : List (Nat × AV)} {St : List AV} {S : SS} : ev c 16 13 [some (aR o), l1, l2] L2 St S = ev c 16 14 [some (aR o), l1, l2] L2 (aR o :: St) S := ev_go i16_13 rfl
theorem i16_14 : insAt 16 14 = some (.iload_n 2, 1, (0, 0, 0, 0), 0) := rfl
theorem s16_14 {c : Nat → List AV → SS → Option Out} {l0 l1 : Option AV} {x : Int32} {L2 : List (Nat × AV)} {St : List AV} {S : SS} : ev c 16 14 [l0, l1, some (aI x)] L2 St S = ev c 16 15 [l0, l1, some (aI x)] L2 (aI x :: St) S := ev_go i16_14 rfl
theorem i16_15 : insAt 16 15 = some (.invokevirtual 58, 3, (17, 1, 2, 4), 81) := rfl
theorem s16_15 {c : Nat → List AV → SS → Option Out} {l0 l1 l2 : Option AV} {t0 : AV} {a0 : Int32} {j t : Nat} {L2 : List (Nat × AV)} {S : SS} : ev c 16 15 [l0, l1, l2] L2 [aI a0, aR (4, j, t), t0] S = ck (c 17 [aR (4, j, t), aI a0] S) (fun v S' => ev c 16 18 [l0, l1, l2] L2 (v.toList ++ [t0]) S') := ev_call i16_15 rfl
theorem i16_18 : insAt 16 18 = some (.getfield 87, 3, (10, 5, 1, 0), 82) := rfl
theorem s16_18 {c : Nat → List AV → SS → Option Out} {l0 l1 l2 : Option AV} {j t : Nat} {L2 : List (Nat × AV)} {St : List AV} {S : SS} : ev c 16 18 [l0, l1, l2] L2 (aR (10, j, t) :: St) S = ev c 16 21 [l0, l1, l2] L2 (aI (bb (S.1 (10, j, t) 5)) :: St) S := ev_go i16_18 rfl
theorem i16_21 : insAt 16 21 = some (.ifCond .eq 7, 3, (0, 0, 0, 0), 0) := rfl
theorem s16_21 {c : Nat → List AV → SS → Option Out} {l0 l1 l2 : Option AV} {x : Int32} {L2 : List (Nat × AV)} {St : List AV} {S : SS} : ev c 16 21 [l0, l1, l2] L2 (aI x :: St) S = if x = 0 then ev c 16 28 [l0, l1, l2] L2 St S else ev c 16 24 [l0, l1, l2] L2 St S := ev_br i16_21 rfl
theorem i16_24 : insAt 16 24 = some (.iconst 0, 1, (0, 0, 0, 0), 0) := rfl
theorem s16_24 {c : Nat → List AV → SS → Option Out} {l0 l1 l2 : Option AV} {L2 : List (Nat × AV)} {St : List AV} {S : SS} : ev c 16 24 [l0, l1, l2] L2 St S = ev c 16 25 [l0, l1, l2] L2 (aI 0 :: St) S := ev_go i16_24 rfl
theorem i16_25 : insAt 16 25 = some (.goto 4, 3, (0, 0, 0, 0), 0) := rfl
theorem s16_25 {c : Nat → List AV → SS → Option Out} {l0 l1 l2 : Option AV} {L2 : List (Nat × AV)} {St : List AV} {S : SS} : ev c 16 25 [l0, l1, l2] L2 St S = ev c 16 29 [l0, l1, l2] L2 St S := ev_go i16_25 rfl
theorem i16_28 : insAt 16 28 = some (.iconst 1, 1, (0, 0, 0, 0), 0) := rfl
theorem s16_28 {c : Nat → List AV → SS → Option Out} {l0 l1 l2 : Option AV} {L2 : List (Nat × AV)} {St : List AV} {S : SS} : ev c 16 28 [l0, l1, l2] L2 St S = ev c 16 29 [l0, l1, l2] L2 (aI 1 :: St) S := ev_go i16_28 rfl
theorem i16_29 : insAt 16 29 = some (.iadd, 1, (0, 0, 0, 0), 0) := rfl
theorem s16_29 {c : Nat → List AV → SS → Option Out} {l0 l1 l2 : Option AV} {x y : Int32} {L2 : List (Nat × AV)} {St : List AV} {S : SS} : ev c 16 29 [l0, l1, l2] L2 (aI y :: aI x :: St) S = ev c 16 30 [l0, l1, l2] L2 (aI (x + y) :: St) S := ev_go i16_29 rfl
theorem i16_30 : insAt 16 30 = some (.istore_n 1, 1, (0, 0, 0, 0), 0) := rfl
theorem s16_30 {c : Nat → List AV → SS → Option Out} {l0 l1 l2 : Option AV} {x : Int32} {L2 : List (Nat × AV)} {St : List AV} {S : SS} : ev c 16 30 [l0, l1, l2] L2 (aI x :: St) S = ev c 16 31 [l0, some (aI x), l2] (kil L2 1) St S := ev_go i16_30 rfl
theorem i16_31 : insAt 16 31 = some (.iinc 2 1, 3, (0, 0, 0, 0), 0) := rfl
theorem s16_31 {c : Nat → List AV → SS → Option Out} {l0 l1 : Option AV} {x : Int32} {L2 : List (Nat × AV)} {St : List AV} {S : SS} : ev c 16 31 [l0, l1, some (aI x)] L2 St S = ev c 16 34 [l0, l1, some (aI (x + 1))] (kil L2 2) St S := ev_go i16_31 rfl
theorem i16_34 : insAt 16 34 = some (.goto (-30), 3, (0, 0, 0, 0), 0) := rfl
theorem s16_34 {c : Nat → List AV → SS → Option Out} {l0 l1 l2 : Option AV} {L2 : List (Nat × AV)} {St : List AV} {S : SS} : ev c 16 34 [l0, l1, l2] L2 St S = ev c 16 4 [l0, l1, l2] L2 St S := ev_go i16_34 rfl
theorem i16_37 : insAt 16 37 = some (.iload_n 1, 1, (0, 0, 0, 0), 0) := rfl
theorem s16_37 {c : Nat → List AV → SS → Option Out} {l0 l2 : Option AV} {x : Int32} {L2 : List (Nat × AV)} {St : List AV} {S : SS} : ev c 16 37 [l0, some (aI x), l2] L2 St S = ev c 16 38 [l0, some (aI x), l2] L2 (aI x :: St) S := ev_go i16_37 rfl
theorem i16_38 : insAt 16 38 = some (.ireturn, 1, (0, 0, 0, 0), 0) := rfl
theorem s16_38 {c : Nat → List AV → SS → Option Out} {l0 l1 l2 : Option AV} {x : Int32} {L2 : List (Nat × AV)} {S : SS} : ev c 16 38 [l0, l1, l2] L2 [aI x] S = some (.inl (some (aI x)), S) := ev_end i16_38 rfl
theorem m16 {d : Nat} {o : OId} {S : SS} : evm (d + 1) 16 [aR o] S = ev (evm d) 16 0 [some (aR o), none, none] [] [] S := evm_s (n := 3) rfl (Nat.le_of_ble_eq_true rfl) rfl rfl
/-! FrequencyOffice$Books.at(I)LFrequencyOffice$Station; -/
theorem i17_0 : insAt 17 0 = some (.iload_n 1, 1, (0, 0, 0, 0), 0) := rfl
theorem s17_0 {c : Nat → List AV → SS → Option Out} {l0 l2 : Option AV} {x : Int32} {L2 : List (Nat × AV)} {St : List AV} {S : SS} : ev c 17 0 [l0, some (aI x), l2] L2 St S = ev c 17 1 [l0, some (aI x), l2] L2 (aI x :: St) S := ev_go i17_0 rfl
theorem i17_1 : insAt 17 1 = some (.ifCond .lt 12, 3, (0, 0, 0, 0), 0) := rfl
theorem s17_1 {c : Nat → List AV → SS → Option Out} {l0 l1 l2 : Option AV} {x : Int32} {L2 : List (Nat × AV)} {St : List AV} {S : SS} : ev c 17 1 [l0, l1, l2] L2 (aI x :: St) S = if x < 0 then ev c 17 13 [l0, l1, l2] L2 St S else ev c 17 4 [l0, l1, l2] L2 St S := ev_br i17_1 rfl
theorem i17_4 : insAt 17 4 = some (.iload_n 1, 1, (0, 0, 0, 0), 0) := rfl
theorem s17_4 {c : Nat → List AV → SS → Option Out} {l0 l2 : Option AV} {x : Int32} {L2 : List (Nat × AV)} {St : List AV} {S : SS} : ev c 17 4 [l0, some (aI x), l2] L2 St S = ev c 17 5 [l0, some (aI x), l2] L2 (aI x :: St) S := ev_go i17_4 rfl
theorem i17_5 : insAt 17 5 = some (.aload_n 0, 1, (0, 0, 0, 0), 0) := rfl
theorem s17_5 {c : Nat → List AV → SS → Option Out} {l1 l2 : Option AV} {o : OId} {L2 : List (Nat × AV)} {St : List AV} {S : SS} : ev c 17 5 [some (aR o), l1, l2] L2 St S = ev c 17 6 [some (aR o), l1, l2] L2 (aR o :: St) S := ev_go i17_5 rfl
theorem i17_6 : insAt 17 6 = some (.getfield 38, 3, (4, 8, 0, 0), 30) := rfl
theorem s17_6 {c : Nat → List AV → SS → Option Out} {l0 l1 l2 : Option AV} {j t : Nat} {L2 : List (Nat × AV)} {St : List AV} {S : SS} : ev c 17 6 [l0, l1, l2] L2 (aR (4, j, t) :: St) S = ev c 17 9 [l0, l1, l2] L2 (S.2.2.1 (4, j, t) 8 :: St) S := ev_go i17_6 rfl
theorem i17_9 : insAt 17 9 = some (.arraylength, 1, (0, 0, 0, 0), 0) := rfl
theorem s17_9 {c : Nat → List AV → SS → Option Out} {l0 l1 l2 : Option AV} {o : OId} {L2 : List (Nat × AV)} {St : List AV} {S : SS} : ev c 17 9 [l0, l1, l2] L2 (aR o :: St) S = kN o (fun x => ev c 17 10 [l0, l1, l2] L2 (aI x :: St) S) := ev_alen i17_9
theorem i17_10 : insAt 17 10 = some (.if_icmp .lt 8, 3, (0, 0, 0, 0), 0) := rfl
theorem s17_10 {c : Nat → List AV → SS → Option Out} {l0 l1 l2 : Option AV} {x y : Int32} {L2 : List (Nat × AV)} {St : List AV} {S : SS} : ev c 17 10 [l0, l1, l2] L2 (aI y :: aI x :: St) S = if x < y then ev c 17 18 [l0, l1, l2] L2 St S else ev c 17 13 [l0, l1, l2] L2 St S := ev_br i17_10 rfl
theorem i17_13 : insAt 17 13 = some (.aload_n 0, 1, (0, 0, 0, 0), 0) := rfl
theorem s17_13 {c : Nat → List AV → SS → Option Out} {l1 l2 : Option AV} {o : OId} {L2 : List (Nat × AV)} {St : List AV} {S : SS} : ev c 17 13 [some (aR o), l1, l2] L2 St S = ev c 17 14 [some (aR o), l1, l2] L2 (aR o :: St) S := ev_go i17_13 rfl
theorem i17_14 : insAt 17 14 = some (.getfield 43, 3, (4, 9, 0, 0), 32) := rfl
theorem s17_14 {c : Nat → List AV → SS → Option Out} {l0 l1 l2 : Option AV} {j t : Nat} {L2 : List (Nat × AV)} {St : List AV} {S : SS} : ev c 17 14 [l0, l1, l2] L2 (aR (4, j, t) :: St) S = ev c 17 17 [l0, l1, l2] L2 (S.2.2.1 (4, j, t) 9 :: St) S := ev_go i17_14 rfl
theorem i17_17 : insAt 17 17 = some (.areturn, 1, (0, 0, 0, 0), 0) := rfl
theorem s17_17 {c : Nat → List AV → SS → Option Out} {l0 l1 l2 : Option AV} {o : OId} {L2 : List (Nat × AV)} {S : SS} : ev c 17 17 [l0, l1, l2] L2 [aR o] S = some (.inl (some (aR o)), S) := ev_end i17_17 rfl
theorem s17_17N {c : Nat → List AV → SS → Option Out} {l0 l1 l2 : Option AV} {L2 : List (Nat × AV)} {S : SS} : ev c 17 17 [l0, l1, l2] L2 [aN] S = some (.inl (some aN), S) := ev_end i17_17 rfl
theorem i17_18 : insAt 17 18 = some (.aload_n 0, 1, (0, 0, 0, 0), 0) := rfl
theorem s17_18 {c : Nat → List AV → SS → Option Out} {l1 l2 : Option AV} {o : OId} {L2 : List (Nat × AV)} {St : List AV} {S : SS} : ev c 17 18 [some (aR o), l1, l2] L2 St S = ev c 17 19 [some (aR o), l1, l2] L2 (aR o :: St) S := ev_go i17_18 rfl
theorem i17_19 : insAt 17 19 = some (.getfield 38, 3, (4, 8, 0, 0), 30) := rfl
theorem s17_19 {c : Nat → List AV → SS → Option Out} {l0 l1 l2 : Option AV} {j t : Nat} {L2 : List (Nat × AV)} {St : List AV} {S : SS} : ev c 17 19 [l0, l1, l2] L2 (aR (4, j, t) :: St) S = ev c 17 22 [l0, l1, l2] L2 (S.2.2.1 (4, j, t) 8 :: St) S := ev_go i17_19 rfl
theorem i17_22 : insAt 17 22 = some (.iload_n 1, 1, (0, 0, 0, 0), 0) := rfl
theorem s17_22 {c : Nat → List AV → SS → Option Out} {l0 l2 : Option AV} {x : Int32} {L2 : List (Nat × AV)} {St : List AV} {S : SS} : ev c 17 22 [l0, some (aI x), l2] L2 St S = ev c 17 23 [l0, some (aI x), l2] L2 (aI x :: St) S := ev_go i17_22 rfl
theorem i17_23 : insAt 17 23 = some (.aaload, 1, (0, 0, 0, 0), 0) := rfl
theorem s17_23 {c : Nat → List AV → SS → Option Out} {l0 l1 l2 : Option AV} {i : Int32} {o : OId} {L2 : List (Nat × AV)} {St : List AV} {S : SS} : ev c 17 23 [l0, l1, l2] L2 (aI i :: aR o :: St) S = kQ o i (ev c 17 24 [l0, l1, l2] L2 (S.2.2.1 o i.toNatClampNeg :: St) S) := ev_aaload i17_23
theorem i17_24 : insAt 17 24 = some (.astore_n 2, 1, (0, 0, 0, 0), 0) := rfl
theorem s17_24 {c : Nat → List AV → SS → Option Out} {l0 l1 l2 : Option AV} {o : OId} {L2 : List (Nat × AV)} {St : List AV} {S : SS} : ev c 17 24 [l0, l1, l2] L2 (aR o :: St) S = ev c 17 25 [l0, l1, some (aR o)] (kil L2 2) St S := ev_go i17_24 rfl
theorem i17_25 : insAt 17 25 = some (.aload_n 2, 1, (0, 0, 0, 0), 0) := rfl
theorem s17_25 {c : Nat → List AV → SS → Option Out} {l0 l1 : Option AV} {o : OId} {L2 : List (Nat × AV)} {St : List AV} {S : SS} : ev c 17 25 [l0, l1, some (aR o)] L2 St S = ev c 17 26 [l0, l1, some (aR o)] L2 (aR o :: St) S := ev_go i17_25 rfl
theorem i17_26 : insAt 17 26 = some (.ifnonnull 10, 3, (0, 0, 0, 0), 0) := rfl
theorem s17_26 {c : Nat → List AV → SS → Option Out} {l0 l1 l2 : Option AV} {j t : Nat} {L2 : List (Nat × AV)} {St : List AV} {S : SS} : ev c 17 26 [l0, l1, l2] L2 (aR (10, j, t) :: St) S = ev c 17 36 [l0, l1, l2] L2 St S := ev_go i17_26 rfl
theorem s17_26N {c : Nat → List AV → SS → Option Out} {l0 l1 l2 : Option AV} {L2 : List (Nat × AV)} {St : List AV} {S : SS} : ev c 17 26 [l0, l1, l2] L2 (aN :: St) S = ev c 17 29 [l0, l1, l2] L2 St S := ev_go i17_26 rfl
theorem i17_29 : insAt 17 29 = some (.aload_n 0, 1, (0, 0, 0, 0), 0) := rfl
theorem s17_29 {c : Nat → List AV → SS → Option Out} {l1 l2 : Option AV} {o : OId} {L2 : List (Nat × AV)} {St : List AV} {S : SS} : ev c 17 29 [some (aR o), l1, l2] L2 St S = ev c 17 30 [some (aR o), l1, l2] L2 (aR o :: St) S := ev_go i17_29 rfl
theorem i17_30 : insAt 17 30 = some (.getfield 43, 3, (4, 9, 0, 0), 32) := rfl
theorem s17_30 {c : Nat → List AV → SS → Option Out} {l0 l1 l2 : Option AV} {j t : Nat} {L2 : List (Nat × AV)} {St : List AV} {S : SS} : ev c 17 30 [l0, l1, l2] L2 (aR (4, j, t) :: St) S = ev c 17 33 [l0, l1, l2] L2 (S.2.2.1 (4, j, t) 9 :: St) S := ev_go i17_30 rfl
theorem i17_33 : insAt 17 33 = some (.goto 4, 3, (0, 0, 0, 0), 0) := rfl
theorem s17_33 {c : Nat → List AV → SS → Option Out} {l0 l1 l2 : Option AV} {L2 : List (Nat × AV)} {St : List AV} {S : SS} : ev c 17 33 [l0, l1, l2] L2 St S = ev c 17 37 [l0, l1, l2] L2 St S := ev_go i17_33 rfl
theorem i17_36 : insAt 17 36 = some (.aload_n 2, 1, (0, 0, 0, 0), 0) := rfl
theorem s17_36 {c : Nat → List AV → SS → Option Out} {l0 l1 : Option AV} {o : OId} {L2 : List (Nat × AV)} {St : List AV} {S : SS} : ev c 17 36 [l0, l1, some (aR o)] L2 St S = ev c 17 37 [l0, l1, some (aR o)] L2 (aR o :: St) S := ev_go i17_36 rfl
theorem i17_37 : insAt 17 37 = some (.areturn, 1, (0, 0, 0, 0), 0) := rfl
theorem s17_37 {c : Nat → List AV → SS → Option Out} {l0 l1 l2 : Option AV} {o : OId} {L2 : List (Nat × AV)} {S : SS} : ev c 17 37 [l0, l1, l2] L2 [aR o] S = some (.inl (some (aR o)), S) := ev_end i17_37 rfl
theorem s17_37N {c : Nat → List AV → SS → Option Out} {l0 l1 l2 : Option AV} {L2 : List (Nat × AV)} {S : SS} : ev c 17 37 [l0, l1, l2] L2 [aN] S = some (.inl (some aN), S) := ev_end i17_37 rfl
theorem m17 {d : Nat} {o : OId} {a0 : Int32} {S : SS} : evm (d + 1) 17 [aR o, aI a0] S = ev (evm d) 17 0 [some (aR o), some (aI a0), none] [] [] S := evm_s (n := 3) rfl (Nat.le_of_ble_eq_true rfl) rfl rfl
/-! FrequencyOffice$Books.find(I)I -/
theorem i19_0 : insAt 19 0 = some (.iconst 0, 1, (0, 0, 0, 0), 0) := rfl
theorem s19_0 {c : Nat → List AV → SS → Option Out} {l0 l1 l2 : Option AV} {L2 : List (Nat × AV)} {St : List AV} {S : SS} : ev c 19 0 [l0, l1, l2] L2 St S = ev c 19 1 [l0, l1, l2] L2 (aI 0 :: St) S := ev_go i19_0 rfl
theorem i19_1 : insAt 19 1 = some (.istore_n 2, 1, (0, 0, 0, 0), 0) := rfl
theorem s19_1 {c : Nat → List AV → SS → Option Out} {l0 l1 l2 : Option AV} {x : Int32} {L2 : List (Nat × AV)} {St : List AV} {S : SS} : ev c 19 1 [l0, l1, l2] L2 (aI x :: St) S = ev c 19 2 [l0, l1, some (aI x)] (kil L2 2) St S := ev_go i19_1 rfl
theorem i19_2 : insAt 19 2 = some (.iload_n 2, 1, (0, 0, 0, 0), 0) := rfl
theorem s19_2 {c : Nat → List AV → SS → Option Out} {l0 l1 : Option AV} {x : Int32} {L2 : List (Nat × AV)} {St : List AV} {S : SS} : ev c 19 2 [l0, l1, some (aI x)] L2 St S = ev c 19 3 [l0, l1, some (aI x)] L2 (aI x :: St) S := ev_go i19_2 rfl
theorem i19_3 : insAt 19 3 = some (.aload_n 0, 1, (0, 0, 0, 0), 0) := rfl
theorem s19_3 {c : Nat → List AV → SS → Option Out} {l1 l2 : Option AV} {o : OId} {L2 : List (Nat × AV)} {St : List AV} {S : SS} : ev c 19 3 [some (aR o), l1, l2] L2 St S = ev c 19 4 [some (aR o), l1, l2] L2 (aR o :: St) S := ev_go i19_3 rfl
theorem i19_4 : insAt 19 4 = some (.getfield 33, 3, (4, 7, 0, 0), 28) := rfl
theorem s19_4 {c : Nat → List AV → SS → Option Out} {l0 l1 l2 : Option AV} {j t : Nat} {L2 : List (Nat × AV)} {St : List AV} {S : SS} : ev c 19 4 [l0, l1, l2] L2 (aR (4, j, t) :: St) S = ev c 19 7 [l0, l1, l2] L2 (aI (S.1 (4, j, t) 7) :: St) S := ev_go i19_4 rfl
theorem i19_7 : insAt 19 7 = some (.if_icmp .ge 23, 3, (0, 0, 0, 0), 0) := rfl
theorem s19_7 {c : Nat → List AV → SS → Option Out} {l0 l1 l2 : Option AV} {x y : Int32} {L2 : List (Nat × AV)} {St : List AV} {S : SS} : ev c 19 7 [l0, l1, l2] L2 (aI y :: aI x :: St) S = if y ≤ x then ev c 19 30 [l0, l1, l2] L2 St S else ev c 19 10 [l0, l1, l2] L2 St S := ev_br i19_7 rfl
theorem i19_10 : insAt 19 10 = some (.aload_n 0, 1, (0, 0, 0, 0), 0) := rfl
theorem s19_10 {c : Nat → List AV → SS → Option Out} {l1 l2 : Option AV} {o : OId} {L2 : List (Nat × AV)} {St : List AV} {S : SS} : ev c 19 10 [some (aR o), l1, l2] L2 St S = ev c 19 11 [some (aR o), l1, l2] L2 (aR o :: St) S := ev_go i19_10 rfl
theorem i19_11 : insAt 19 11 = some (.iload_n 2, 1, (0, 0, 0, 0), 0) := rfl
theorem s19_11 {c : Nat → List AV → SS → Option Out} {l0 l1 : Option AV} {x : Int32} {L2 : List (Nat × AV)} {St : List AV} {S : SS} : ev c 19 11 [l0, l1, some (aI x)] L2 St S = ev c 19 12 [l0, l1, some (aI x)] L2 (aI x :: St) S := ev_go i19_11 rfl
theorem i19_12 : insAt 19 12 = some (.invokevirtual 58, 3, (17, 1, 2, 4), 81) := rfl
theorem s19_12 {c : Nat → List AV → SS → Option Out} {l0 l1 l2 : Option AV} {a0 : Int32} {j t : Nat} {L2 : List (Nat × AV)} {S : SS} : ev c 19 12 [l0, l1, l2] L2 [aI a0, aR (4, j, t)] S = ck (c 17 [aR (4, j, t), aI a0] S) (fun v S' => ev c 19 15 [l0, l1, l2] L2 (v.toList ++ []) S') := ev_call i19_12 rfl
theorem i19_15 : insAt 19 15 = some (.getfield 75, 3, (10, 0, 1, 0), 84) := rfl
theorem s19_15 {c : Nat → List AV → SS → Option Out} {l0 l1 l2 : Option AV} {j t : Nat} {L2 : List (Nat × AV)} {St : List AV} {S : SS} : ev c 19 15 [l0, l1, l2] L2 (aR (10, j, t) :: St) S = ev c 19 18 [l0, l1, l2] L2 (aI (S.1 (10, j, t) 0) :: St) S := ev_go i19_15 rfl
theorem i19_18 : insAt 19 18 = some (.iload_n 1, 1, (0, 0, 0, 0), 0) := rfl
theorem s19_18 {c : Nat → List AV → SS → Option Out} {l0 l2 : Option AV} {x : Int32} {L2 : List (Nat × AV)} {St : List AV} {S : SS} : ev c 19 18 [l0, some (aI x), l2] L2 St S = ev c 19 19 [l0, some (aI x), l2] L2 (aI x :: St) S := ev_go i19_18 rfl
theorem i19_19 : insAt 19 19 = some (.if_icmp .ne 5, 3, (0, 0, 0, 0), 0) := rfl
theorem s19_19 {c : Nat → List AV → SS → Option Out} {l0 l1 l2 : Option AV} {x y : Int32} {L2 : List (Nat × AV)} {St : List AV} {S : SS} : ev c 19 19 [l0, l1, l2] L2 (aI y :: aI x :: St) S = if x = y then ev c 19 22 [l0, l1, l2] L2 St S else ev c 19 24 [l0, l1, l2] L2 St S := (ev_br i19_19 rfl).trans (ite_not _ _ _)
theorem i19_22 : insAt 19 22 = some (.iload_n 2, 1, (0, 0, 0, 0), 0) := rfl
theorem s19_22 {c : Nat → List AV → SS → Option Out} {l0 l1 : Option AV} {x : Int32} {L2 : List (Nat × AV)} {St : List AV} {S : SS} : ev c 19 22 [l0, l1, some (aI x)] L2 St S = ev c 19 23 [l0, l1, some (aI x)] L2 (aI x :: St) S := ev_go i19_22 rfl
theorem i19_23 : insAt 19 23 = some (.ireturn, 1, (0, 0, 0, 0), 0) := rfl
theorem s19_23 {c : Nat → List AV → SS → Option Out} {l0 l1 l2 : Option AV} {x : Int32} {L2 : List (Nat × AV)} {S : SS} : ev c 19 23 [l0, l1, l2] L2 [aI x] S = some (.inl (some (aI x)), S) := ev_end i19_23 rfl
theorem i19_24 : insAt 19 24 = some (.iinc 2 1, 3, (0, 0, 0, 0), 0) := rfl
theorem s19_24 {c : Nat → List AV → SS → Option Out} {l0 l1 : Option AV} {x : Int32} {L2 : List (Nat × AV)} {St : List AV} {S : SS} : ev c 19 24 [l0, l1, some (aI x)] L2 St S = ev c 19 27 [l0, l1, some (aI (x + 1))] (kil L2 2) St S := ev_go i19_24 rfl
theorem i19_27 : insAt 19 27 = some (.goto (-25), 3, (0, 0, 0, 0), 0) := rfl
theorem s19_27 {c : Nat → List AV → SS → Option Out} {l0 l1 l2 : Option AV} {L2 : List (Nat × AV)} {St : List AV} {S : SS} : ev c 19 27 [l0, l1, l2] L2 St S = ev c 19 2 [l0, l1, l2] L2 St S := ev_go i19_27 rfl
theorem i19_30 : insAt 19 30 = some (.iconst (-1), 1, (0, 0, 0, 0), 0) := rfl
theorem s19_30 {c : Nat → List AV → SS → Option Out} {l0 l1 l2 : Option AV} {L2 : List (Nat × AV)} {St : List AV} {S : SS} : ev c 19 30 [l0, l1, l2] L2 St S = ev c 19 31 [l0, l1, l2] L2 (aI (-1) :: St) S := ev_go i19_30 rfl
theorem i19_31 : insAt 19 31 = some (.ireturn, 1, (0, 0, 0, 0), 0) := rfl
theorem s19_31 {c : Nat → List AV → SS → Option Out} {l0 l1 l2 : Option AV} {x : Int32} {L2 : List (Nat × AV)} {S : SS} : ev c 19 31 [l0, l1, l2] L2 [aI x] S = some (.inl (some (aI x)), S) := ev_end i19_31 rfl
theorem m19 {d : Nat} {o : OId} {a0 : Int32} {S : SS} : evm (d + 1) 19 [aR o, aI a0] S = ev (evm d) 19 0 [some (aR o), some (aI a0), none] [] [] S := evm_s (n := 3) rfl (Nat.le_of_ble_eq_true rfl) rfl rfl
/-! FrequencyOffice$Books.conflictsBefore(I)Z -/
theorem i23_0 : insAt 23 0 = some (.iconst 0, 1, (0, 0, 0, 0), 0) := rfl
theorem s23_0 {c : Nat → List AV → SS → Option Out} {l0 l1 l2 : Option AV} {L2 : List (Nat × AV)} {St : List AV} {S : SS} : ev c 23 0 [l0, l1, l2] L2 St S = ev c 23 1 [l0, l1, l2] L2 (aI 0 :: St) S := ev_go i23_0 rfl
theorem i23_1 : insAt 23 1 = some (.istore_n 2, 1, (0, 0, 0, 0), 0) := rfl
theorem s23_1 {c : Nat → List AV → SS → Option Out} {l0 l1 l2 : Option AV} {x : Int32} {L2 : List (Nat × AV)} {St : List AV} {S : SS} : ev c 23 1 [l0, l1, l2] L2 (aI x :: St) S = ev c 23 2 [l0, l1, some (aI x)] (kil L2 2) St S := ev_go i23_1 rfl
theorem i23_2 : insAt 23 2 = some (.iload_n 2, 1, (0, 0, 0, 0), 0) := rfl
theorem s23_2 {c : Nat → List AV → SS → Option Out} {l0 l1 : Option AV} {x : Int32} {L2 : List (Nat × AV)} {St : List AV} {S : SS} : ev c 23 2 [l0, l1, some (aI x)] L2 St S = ev c 23 3 [l0, l1, some (aI x)] L2 (aI x :: St) S := ev_go i23_2 rfl
theorem i23_3 : insAt 23 3 = some (.iload_n 1, 1, (0, 0, 0, 0), 0) := rfl
theorem s23_3 {c : Nat → List AV → SS → Option Out} {l0 l2 : Option AV} {x : Int32} {L2 : List (Nat × AV)} {St : List AV} {S : SS} : ev c 23 3 [l0, some (aI x), l2] L2 St S = ev c 23 4 [l0, some (aI x), l2] L2 (aI x :: St) S := ev_go i23_3 rfl
theorem i23_4 : insAt 23 4 = some (.if_icmp .ge 20, 3, (0, 0, 0, 0), 0) := rfl
theorem s23_4 {c : Nat → List AV → SS → Option Out} {l0 l1 l2 : Option AV} {x y : Int32} {L2 : List (Nat × AV)} {St : List AV} {S : SS} : ev c 23 4 [l0, l1, l2] L2 (aI y :: aI x :: St) S = if y ≤ x then ev c 23 24 [l0, l1, l2] L2 St S else ev c 23 7 [l0, l1, l2] L2 St S := ev_br i23_4 rfl
theorem i23_7 : insAt 23 7 = some (.aload_n 0, 1, (0, 0, 0, 0), 0) := rfl
theorem s23_7 {c : Nat → List AV → SS → Option Out} {l1 l2 : Option AV} {o : OId} {L2 : List (Nat × AV)} {St : List AV} {S : SS} : ev c 23 7 [some (aR o), l1, l2] L2 St S = ev c 23 8 [some (aR o), l1, l2] L2 (aR o :: St) S := ev_go i23_7 rfl
theorem i23_8 : insAt 23 8 = some (.iload_n 2, 1, (0, 0, 0, 0), 0) := rfl
theorem s23_8 {c : Nat → List AV → SS → Option Out} {l0 l1 : Option AV} {x : Int32} {L2 : List (Nat × AV)} {St : List AV} {S : SS} : ev c 23 8 [l0, l1, some (aI x)] L2 St S = ev c 23 9 [l0, l1, some (aI x)] L2 (aI x :: St) S := ev_go i23_8 rfl
theorem i23_9 : insAt 23 9 = some (.iload_n 1, 1, (0, 0, 0, 0), 0) := rfl
theorem s23_9 {c : Nat → List AV → SS → Option Out} {l0 l2 : Option AV} {x : Int32} {L2 : List (Nat × AV)} {St : List AV} {S : SS} : ev c 23 9 [l0, some (aI x), l2] L2 St S = ev c 23 10 [l0, some (aI x), l2] L2 (aI x :: St) S := ev_go i23_9 rfl
theorem i23_10 : insAt 23 10 = some (.invokevirtual 137, 3, (24, 2, 2, 4), 90) := rfl
theorem s23_10 {c : Nat → List AV → SS → Option Out} {l0 l1 l2 : Option AV} {a0 : Int32} {a1 : Int32} {j t : Nat} {L2 : List (Nat × AV)} {S : SS} : ev c 23 10 [l0, l1, l2] L2 [aI a1, aI a0, aR (4, j, t)] S = ck (c 24 [aR (4, j, t), aI a0, aI a1] S) (fun v S' => ev c 23 13 [l0, l1, l2] L2 (v.toList ++ []) S') := ev_call i23_10 rfl
theorem i23_13 : insAt 23 13 = some (.ifCond .ge 5, 3, (0, 0, 0, 0), 0) := rfl
theorem s23_13 {c : Nat → List AV → SS → Option Out} {l0 l1 l2 : Option AV} {x : Int32} {L2 : List (Nat × AV)} {St : List AV} {S : SS} : ev c 23 13 [l0, l1, l2] L2 (aI x :: St) S = if 0 ≤ x then ev c 23 18 [l0, l1, l2] L2 St S else ev c 23 16 [l0, l1, l2] L2 St S := ev_br i23_13 rfl
theorem i23_16 : insAt 23 16 = some (.iconst 1, 1, (0, 0, 0, 0), 0) := rfl
theorem s23_16 {c : Nat → List AV → SS → Option Out} {l0 l1 l2 : Option AV} {L2 : List (Nat × AV)} {St : List AV} {S : SS} : ev c 23 16 [l0, l1, l2] L2 St S = ev c 23 17 [l0, l1, l2] L2 (aI 1 :: St) S := ev_go i23_16 rfl
theorem i23_17 : insAt 23 17 = some (.ireturn, 1, (0, 0, 0, 0), 0) := rfl
theorem s23_17 {c : Nat → List AV → SS → Option Out} {l0 l1 l2 : Option AV} {x : Int32} {L2 : List (Nat × AV)} {S : SS} : ev c 23 17 [l0, l1, l2] L2 [aI x] S = if x = 0 ∨ x = 1 then some (.inl (some (aI x)), S) else none := ev_rt i23_17 rfl
theorem i23_18 : insAt 23 18 = some (.iinc 2 1, 3, (0, 0, 0, 0), 0) := rfl
theorem s23_18 {c : Nat → List AV → SS → Option Out} {l0 l1 : Option AV} {x : Int32} {L2 : List (Nat × AV)} {St : List AV} {S : SS} : ev c 23 18 [l0, l1, some (aI x)] L2 St S = ev c 23 21 [l0, l1, some (aI (x + 1))] (kil L2 2) St S := ev_go i23_18 rfl
theorem i23_21 : insAt 23 21 = some (.goto (-19), 3, (0, 0, 0, 0), 0) := rfl
theorem s23_21 {c : Nat → List AV → SS → Option Out} {l0 l1 l2 : Option AV} {L2 : List (Nat × AV)} {St : List AV} {S : SS} : ev c 23 21 [l0, l1, l2] L2 St S = ev c 23 2 [l0, l1, l2] L2 St S := ev_go i23_21 rfl
theorem i23_24 : insAt 23 24 = some (.iconst 0, 1, (0, 0, 0, 0), 0) := rfl
theorem s23_24 {c : Nat → List AV → SS → Option Out} {l0 l1 l2 : Option AV} {L2 : List (Nat × AV)} {St : List AV} {S : SS} : ev c 23 24 [l0, l1, l2] L2 St S = ev c 23 25 [l0, l1, l2] L2 (aI 0 :: St) S := ev_go i23_24 rfl
theorem i23_25 : insAt 23 25 = some (.ireturn, 1, (0, 0, 0, 0), 0) := rfl
theorem s23_25 {c : Nat → List AV → SS → Option Out} {l0 l1 l2 : Option AV} {x : Int32} {L2 : List (Nat × AV)} {S : SS} : ev c 23 25 [l0, l1, l2] L2 [aI x] S = if x = 0 ∨ x = 1 then some (.inl (some (aI x)), S) else none := ev_rt i23_25 rfl
theorem m23 {d : Nat} {o : OId} {a0 : Int32} {S : SS} : evm (d + 1) 23 [aR o, aI a0] S = ev (evm d) 23 0 [some (aR o), some (aI a0), none] [] [] S := evm_s (n := 3) rfl (Nat.le_of_ble_eq_true rfl) rfl rfl
/-! FrequencyOffice$Books.marginBetween(II)I -/
theorem i24_0 : insAt 24 0 = some (.aload_n 0, 1, (0, 0, 0, 0), 0) := rfl
theorem s24_0 {c : Nat → List AV → SS → Option Out} {l1 l2 : Option AV} {o : OId} {L2 : List (Nat × AV)} {St : List AV} {S : SS} : ev c 24 0 [some (aR o), l1, l2] L2 St S = ev c 24 1 [some (aR o), l1, l2] L2 (aR o :: St) S := ev_go i24_0 rfl
theorem i24_1 : insAt 24 1 = some (.iload_n 1, 1, (0, 0, 0, 0), 0) := rfl
theorem s24_1 {c : Nat → List AV → SS → Option Out} {l0 l2 : Option AV} {x : Int32} {L2 : List (Nat × AV)} {St : List AV} {S : SS} : ev c 24 1 [l0, some (aI x), l2] L2 St S = ev c 24 2 [l0, some (aI x), l2] L2 (aI x :: St) S := ev_go i24_1 rfl
theorem i24_2 : insAt 24 2 = some (.invokevirtual 58, 3, (17, 1, 2, 4), 81) := rfl
theorem s24_2 {c : Nat → List AV → SS → Option Out} {l0 l1 l2 : Option AV} {a0 : Int32} {j t : Nat} {L2 : List (Nat × AV)} {S : SS} : ev c 24 2 [l0, l1, l2] L2 [aI a0, aR (4, j, t)] S = ck (c 17 [aR (4, j, t), aI a0] S) (fun v S' => ev c 24 5 [l0, l1, l2] L2 (v.toList ++ []) S') := ev_call i24_2 rfl
theorem i24_5 : insAt 24 5 = some (.getfield 126, 3, (10, 3, 1, 0), 91) := rfl
theorem s24_5 {c : Nat → List AV → SS → Option Out} {l0 l1 l2 : Option AV} {j t : Nat} {L2 : List (Nat × AV)} {St : List AV} {S : SS} : ev c 24 5 [l0, l1, l2] L2 (aR (10, j, t) :: St) S = ev c 24 8 [l0, l1, l2] L2 (aI (S.1 (10, j, t) 3) :: St) S := ev_go i24_5 rfl
theorem i24_8 : insAt 24 8 = some (.aload_n 0, 1, (0, 0, 0, 0), 0) := rfl
theorem s24_8 {c : Nat → List AV → SS → Option Out} {l1 l2 : Option AV} {o : OId} {L2 : List (Nat × AV)} {St : List AV} {S : SS} : ev c 24 8 [some (aR o), l1, l2] L2 St S = ev c 24 9 [some (aR o), l1, l2] L2 (aR o :: St) S := ev_go i24_8 rfl
theorem i24_9 : insAt 24 9 = some (.iload_n 2, 1, (0, 0, 0, 0), 0) := rfl
theorem s24_9 {c : Nat → List AV → SS → Option Out} {l0 l1 : Option AV} {x : Int32} {L2 : List (Nat × AV)} {St : List AV} {S : SS} : ev c 24 9 [l0, l1, some (aI x)] L2 St S = ev c 24 10 [l0, l1, some (aI x)] L2 (aI x :: St) S := ev_go i24_9 rfl
theorem i24_10 : insAt 24 10 = some (.invokevirtual 58, 3, (17, 1, 2, 4), 81) := rfl
theorem s24_10 {c : Nat → List AV → SS → Option Out} {l0 l1 l2 : Option AV} {t0 : AV} {a0 : Int32} {j t : Nat} {L2 : List (Nat × AV)} {S : SS} : ev c 24 10 [l0, l1, l2] L2 [aI a0, aR (4, j, t), t0] S = ck (c 17 [aR (4, j, t), aI a0] S) (fun v S' => ev c 24 13 [l0, l1, l2] L2 (v.toList ++ [t0]) S') := ev_call i24_10 rfl
theorem i24_13 : insAt 24 13 = some (.getfield 126, 3, (10, 3, 1, 0), 91) := rfl
theorem s24_13 {c : Nat → List AV → SS → Option Out} {l0 l1 l2 : Option AV} {j t : Nat} {L2 : List (Nat × AV)} {St : List AV} {S : SS} : ev c 24 13 [l0, l1, l2] L2 (aR (10, j, t) :: St) S = ev c 24 16 [l0, l1, l2] L2 (aI (S.1 (10, j, t) 3) :: St) S := ev_go i24_13 rfl
theorem i24_16 : insAt 24 16 = some (.isub, 1, (0, 0, 0, 0), 0) := rfl
theorem s24_16 {c : Nat → List AV → SS → Option Out} {l0 l1 l2 : Option AV} {x y : Int32} {L2 : List (Nat × AV)} {St : List AV} {S : SS} : ev c 24 16 [l0, l1, l2] L2 (aI y :: aI x :: St) S = ev c 24 17 [l0, l1, l2] L2 (aI (x - y) :: St) S := ev_go i24_16 rfl
theorem i24_17 : insAt 24 17 = some (.invokestatic 129, 3, (0, 1, 25, 0), 92) := rfl
theorem s24_17 {c : Nat → List AV → SS → Option Out} {l0 l1 l2 : Option AV} {x : Int32} {L2 : List (Nat × AV)} {S : SS} : ev c 24 17 [l0, l1, l2] L2 [aI x] S = ev c 24 20 [l0, l1, l2] L2 [aI (if 0 ≤ x then x else 0 - x)] S := ev_go i24_17 rfl
theorem i24_20 : insAt 24 20 = some (.aload_n 0, 1, (0, 0, 0, 0), 0) := rfl
theorem s24_20 {c : Nat → List AV → SS → Option Out} {l1 l2 : Option AV} {o : OId} {L2 : List (Nat × AV)} {St : List AV} {S : SS} : ev c 24 20 [some (aR o), l1, l2] L2 St S = ev c 24 21 [some (aR o), l1, l2] L2 (aR o :: St) S := ev_go i24_20 rfl
theorem i24_21 : insAt 24 21 = some (.iload_n 1, 1, (0, 0, 0, 0), 0) := rfl
theorem s24_21 {c : Nat → List AV → SS → Option Out} {l0 l2 : Option AV} {x : Int32} {L2 : List (Nat × AV)} {St : List AV} {S : SS} : ev c 24 21 [l0, some (aI x), l2] L2 St S = ev c 24 22 [l0, some (aI x), l2] L2 (aI x :: St) S := ev_go i24_21 rfl
theorem i24_22 : insAt 24 22 = some (.iload_n 2, 1, (0, 0, 0, 0), 0) := rfl
theorem s24_22 {c : Nat → List AV → SS → Option Out} {l0 l1 : Option AV} {x : Int32} {L2 : List (Nat × AV)} {St : List AV} {S : SS} : ev c 24 22 [l0, l1, some (aI x)] L2 St S = ev c 24 23 [l0, l1, some (aI x)] L2 (aI x :: St) S := ev_go i24_22 rfl
theorem i24_23 : insAt 24 23 = some (.invokevirtual 134, 3, (25, 2, 2, 4), 93) := rfl
theorem s24_23 {c : Nat → List AV → SS → Option Out} {l0 l1 l2 : Option AV} {t0 : AV} {a0 : Int32} {a1 : Int32} {j t : Nat} {L2 : List (Nat × AV)} {S : SS} : ev c 24 23 [l0, l1, l2] L2 [aI a1, aI a0, aR (4, j, t), t0] S = ck (c 25 [aR (4, j, t), aI a0, aI a1] S) (fun v S' => ev c 24 26 [l0, l1, l2] L2 (v.toList ++ [t0]) S') := ev_call i24_23 rfl
theorem i24_26 : insAt 24 26 = some (.isub, 1, (0, 0, 0, 0), 0) := rfl
theorem s24_26 {c : Nat → List AV → SS → Option Out} {l0 l1 l2 : Option AV} {x y : Int32} {L2 : List (Nat × AV)} {St : List AV} {S : SS} : ev c 24 26 [l0, l1, l2] L2 (aI y :: aI x :: St) S = ev c 24 27 [l0, l1, l2] L2 (aI (x - y) :: St) S := ev_go i24_26 rfl
theorem i24_27 : insAt 24 27 = some (.ireturn, 1, (0, 0, 0, 0), 0) := rfl
theorem s24_27 {c : Nat → List AV → SS → Option Out} {l0 l1 l2 : Option AV} {x : Int32} {L2 : List (Nat × AV)} {S : SS} : ev c 24 27 [l0, l1, l2] L2 [aI x] S = some (.inl (some (aI x)), S) := ev_end i24_27 rfl
theorem m24 {d : Nat} {o : OId} {a0 : Int32} {a1 : Int32} {S : SS} : evm (d + 1) 24 [aR o, aI a0, aI a1] S = ev (evm d) 24 0 [some (aR o), some (aI a0), some (aI a1)] [] [] S := evm_s (n := 3) rfl (Nat.le_of_ble_eq_true rfl) rfl rfl
/-! FrequencyOffice$Books.separationBetween(II)I -/
theorem i25_0 : insAt 25 0 = some (.aload_n 0, 1, (0, 0, 0, 0), 0) := rfl
theorem s25_0 {c : Nat → List AV → SS → Option Out} {l1 l2 : Option AV} {o : OId} {L2 : List (Nat × AV)} {St : List AV} {S : SS} : ev c 25 0 [some (aR o), l1, l2] L2 St S = ev c 25 1 [some (aR o), l1, l2] L2 (aR o :: St) S := ev_go i25_0 rfl
theorem i25_1 : insAt 25 1 = some (.iload_n 1, 1, (0, 0, 0, 0), 0) := rfl
theorem s25_1 {c : Nat → List AV → SS → Option Out} {l0 l2 : Option AV} {x : Int32} {L2 : List (Nat × AV)} {St : List AV} {S : SS} : ev c 25 1 [l0, some (aI x), l2] L2 St S = ev c 25 2 [l0, some (aI x), l2] L2 (aI x :: St) S := ev_go i25_1 rfl
theorem i25_2 : insAt 25 2 = some (.iload_n 2, 1, (0, 0, 0, 0), 0) := rfl
theorem s25_2 {c : Nat → List AV → SS → Option Out} {l0 l1 : Option AV} {x : Int32} {L2 : List (Nat × AV)} {St : List AV} {S : SS} : ev c 25 2 [l0, l1, some (aI x)] L2 St S = ev c 25 3 [l0, l1, some (aI x)] L2 (aI x :: St) S := ev_go i25_2 rfl
theorem i25_3 : insAt 25 3 = some (.invokevirtual 123, 3, (26, 2, 2, 4), 94) := rfl
theorem s25_3 {c : Nat → List AV → SS → Option Out} {l0 l1 l2 : Option AV} {a0 : Int32} {a1 : Int32} {j t : Nat} {L2 : List (Nat × AV)} {S : SS} : ev c 25 3 [l0, l1, l2] L2 [aI a1, aI a0, aR (4, j, t)] S = ck (c 26 [aR (4, j, t), aI a0, aI a1] S) (fun v S' => ev c 25 6 [l0, l1, l2] L2 (v.toList ++ []) S') := ev_call i25_3 rfl
theorem i25_6 : insAt 25 6 = some (.aload_n 0, 1, (0, 0, 0, 0), 0) := rfl
theorem s25_6 {c : Nat → List AV → SS → Option Out} {l1 l2 : Option AV} {o : OId} {L2 : List (Nat × AV)} {St : List AV} {S : SS} : ev c 25 6 [some (aR o), l1, l2] L2 St S = ev c 25 7 [some (aR o), l1, l2] L2 (aR o :: St) S := ev_go i25_6 rfl
theorem i25_7 : insAt 25 7 = some (.iload_n 1, 1, (0, 0, 0, 0), 0) := rfl
theorem s25_7 {c : Nat → List AV → SS → Option Out} {l0 l2 : Option AV} {x : Int32} {L2 : List (Nat × AV)} {St : List AV} {S : SS} : ev c 25 7 [l0, some (aI x), l2] L2 St S = ev c 25 8 [l0, some (aI x), l2] L2 (aI x :: St) S := ev_go i25_7 rfl
theorem i25_8 : insAt 25 8 = some (.iload_n 2, 1, (0, 0, 0, 0), 0) := rfl
theorem s25_8 {c : Nat → List AV → SS → Option Out} {l0 l1 : Option AV} {x : Int32} {L2 : List (Nat × AV)} {St : List AV} {S : SS} : ev c 25 8 [l0, l1, some (aI x)] L2 St S = ev c 25 9 [l0, l1, some (aI x)] L2 (aI x :: St) S := ev_go i25_8 rfl
theorem i25_9 : insAt 25 9 = some (.invokevirtual 95, 3, (29, 2, 2, 4), 95) := rfl
theorem s25_9 {c : Nat → List AV → SS → Option Out} {l0 l1 l2 : Option AV} {t0 : AV} {a0 : Int32} {a1 : Int32} {j t : Nat} {L2 : List (Nat × AV)} {S : SS} : ev c 25 9 [l0, l1, l2] L2 [aI a1, aI a0, aR (4, j, t), t0] S = ck (c 29 [aR (4, j, t), aI a0, aI a1] S) (fun v S' => ev c 25 12 [l0, l1, l2] L2 (v.toList ++ [t0]) S') := ev_call i25_9 rfl
theorem i25_12 : insAt 25 12 = some (.iadd, 1, (0, 0, 0, 0), 0) := rfl
theorem s25_12 {c : Nat → List AV → SS → Option Out} {l0 l1 l2 : Option AV} {x y : Int32} {L2 : List (Nat × AV)} {St : List AV} {S : SS} : ev c 25 12 [l0, l1, l2] L2 (aI y :: aI x :: St) S = ev c 25 13 [l0, l1, l2] L2 (aI (x + y) :: St) S := ev_go i25_12 rfl
theorem i25_13 : insAt 25 13 = some (.ireturn, 1, (0, 0, 0, 0), 0) := rfl
theorem s25_13 {c : Nat → List AV → SS → Option Out} {l0 l1 l2 : Option AV} {x : Int32} {L2 : List (Nat × AV)} {S : SS} : ev c 25 13 [l0, l1, l2] L2 [aI x] S = some (.inl (some (aI x)), S) := ev_end i25_13 rfl
theorem m25 {d : Nat} {o : OId} {a0 : Int32} {a1 : Int32} {S : SS} : evm (d + 1) 25 [aR o, aI a0, aI a1] S = ev (evm d) 25 0 [some (aR o), some (aI a0), some (aI a1)] [] [] S := evm_s (n := 3) rfl (Nat.le_of_ble_eq_true rfl) rfl rfl
/-! FrequencyOffice$Books.baseBetween(II)I -/
theorem i26_0 : insAt 26 0 = some (.aload_n 0, 1, (0, 0, 0, 0), 0) := rfl
theorem s26_0 {c : Nat → List AV → SS → Option Out} {l1 l2 : Option AV} {o : OId} {L2 : List (Nat × AV)} {St : List AV} {S : SS} : ev c 26 0 [some (aR o), l1, l2] L2 St S = ev c 26 1 [some (aR o), l1, l2] L2 (aR o :: St) S := ev_go i26_0 rfl
theorem i26_1 : insAt 26 1 = some (.aload_n 0, 1, (0, 0, 0, 0), 0) := rfl
theorem s26_1 {c : Nat → List AV → SS → Option Out} {l1 l2 : Option AV} {o : OId} {L2 : List (Nat × AV)} {St : List AV} {S : SS} : ev c 26 1 [some (aR o), l1, l2] L2 St S = ev c 26 2 [some (aR o), l1, l2] L2 (aR o :: St) S := ev_go i26_1 rfl
theorem i26_2 : insAt 26 2 = some (.iload_n 1, 1, (0, 0, 0, 0), 0) := rfl
theorem s26_2 {c : Nat → List AV → SS → Option Out} {l0 l2 : Option AV} {x : Int32} {L2 : List (Nat × AV)} {St : List AV} {S : SS} : ev c 26 2 [l0, some (aI x), l2] L2 St S = ev c 26 3 [l0, some (aI x), l2] L2 (aI x :: St) S := ev_go i26_2 rfl
theorem i26_3 : insAt 26 3 = some (.invokevirtual 58, 3, (17, 1, 2, 4), 81) := rfl
theorem s26_3 {c : Nat → List AV → SS → Option Out} {l0 l1 l2 : Option AV} {t0 : AV} {a0 : Int32} {j t : Nat} {L2 : List (Nat × AV)} {S : SS} : ev c 26 3 [l0, l1, l2] L2 [aI a0, aR (4, j, t), t0] S = ck (c 17 [aR (4, j, t), aI a0] S) (fun v S' => ev c 26 6 [l0, l1, l2] L2 (v.toList ++ [t0]) S') := ev_call i26_3 rfl
theorem i26_6 : insAt 26 6 = some (.aload_n 0, 1, (0, 0, 0, 0), 0) := rfl
theorem s26_6 {c : Nat → List AV → SS → Option Out} {l1 l2 : Option AV} {o : OId} {L2 : List (Nat × AV)} {St : List AV} {S : SS} : ev c 26 6 [some (aR o), l1, l2] L2 St S = ev c 26 7 [some (aR o), l1, l2] L2 (aR o :: St) S := ev_go i26_6 rfl
theorem i26_7 : insAt 26 7 = some (.iload_n 2, 1, (0, 0, 0, 0), 0) := rfl
theorem s26_7 {c : Nat → List AV → SS → Option Out} {l0 l1 : Option AV} {x : Int32} {L2 : List (Nat × AV)} {St : List AV} {S : SS} : ev c 26 7 [l0, l1, some (aI x)] L2 St S = ev c 26 8 [l0, l1, some (aI x)] L2 (aI x :: St) S := ev_go i26_7 rfl
theorem i26_8 : insAt 26 8 = some (.invokevirtual 58, 3, (17, 1, 2, 4), 81) := rfl
theorem s26_8 {c : Nat → List AV → SS → Option Out} {l0 l1 l2 : Option AV} {t0 t1 : AV} {a0 : Int32} {j t : Nat} {L2 : List (Nat × AV)} {S : SS} : ev c 26 8 [l0, l1, l2] L2 [aI a0, aR (4, j, t), t0, t1] S = ck (c 17 [aR (4, j, t), aI a0] S) (fun v S' => ev c 26 11 [l0, l1, l2] L2 (v.toList ++ [t0, t1]) S') := ev_call i26_8 rfl
theorem i26_11 : insAt 26 11 = some (.getfield 78, 3, (10, 1, 1, 0), 96) := rfl
theorem s26_11 {c : Nat → List AV → SS → Option Out} {l0 l1 l2 : Option AV} {j t : Nat} {L2 : List (Nat × AV)} {St : List AV} {S : SS} : ev c 26 11 [l0, l1, l2] L2 (aR (10, j, t) :: St) S = ev c 26 14 [l0, l1, l2] L2 (aI (S.1 (10, j, t) 1) :: St) S := ev_go i26_11 rfl
theorem i26_14 : insAt 26 14 = some (.aload_n 0, 1, (0, 0, 0, 0), 0) := rfl
theorem s26_14 {c : Nat → List AV → SS → Option Out} {l1 l2 : Option AV} {o : OId} {L2 : List (Nat × AV)} {St : List AV} {S : SS} : ev c 26 14 [some (aR o), l1, l2] L2 St S = ev c 26 15 [some (aR o), l1, l2] L2 (aR o :: St) S := ev_go i26_14 rfl
theorem i26_15 : insAt 26 15 = some (.iload_n 2, 1, (0, 0, 0, 0), 0) := rfl
theorem s26_15 {c : Nat → List AV → SS → Option Out} {l0 l1 : Option AV} {x : Int32} {L2 : List (Nat × AV)} {St : List AV} {S : SS} : ev c 26 15 [l0, l1, some (aI x)] L2 St S = ev c 26 16 [l0, l1, some (aI x)] L2 (aI x :: St) S := ev_go i26_15 rfl
theorem i26_16 : insAt 26 16 = some (.invokevirtual 58, 3, (17, 1, 2, 4), 81) := rfl
theorem s26_16 {c : Nat → List AV → SS → Option Out} {l0 l1 l2 : Option AV} {t0 t1 t2 : AV} {a0 : Int32} {j t : Nat} {L2 : List (Nat × AV)} {S : SS} : ev c 26 16 [l0, l1, l2] L2 [aI a0, aR (4, j, t), t0, t1, t2] S = ck (c 17 [aR (4, j, t), aI a0] S) (fun v S' => ev c 26 19 [l0, l1, l2] L2 (v.toList ++ [t0, t1, t2]) S') := ev_call i26_16 rfl
theorem i26_19 : insAt 26 19 = some (.getfield 81, 3, (10, 2, 1, 0), 97) := rfl
theorem s26_19 {c : Nat → List AV → SS → Option Out} {l0 l1 l2 : Option AV} {j t : Nat} {L2 : List (Nat × AV)} {St : List AV} {S : SS} : ev c 26 19 [l0, l1, l2] L2 (aR (10, j, t) :: St) S = ev c 26 22 [l0, l1, l2] L2 (aI (S.1 (10, j, t) 2) :: St) S := ev_go i26_19 rfl
theorem i26_22 : insAt 26 22 = some (.invokevirtual 113, 3, (27, 2, 3, 10), 98) := rfl
theorem s26_22 {c : Nat → List AV → SS → Option Out} {l0 l1 l2 : Option AV} {t0 : AV} {a0 : Int32} {a1 : Int32} {j t : Nat} {L2 : List (Nat × AV)} {S : SS} : ev c 26 22 [l0, l1, l2] L2 [aI a1, aI a0, aR (10, j, t), t0] S = ck (c 27 [aR (10, j, t), aI a0, aI a1] S) (fun v S' => ev c 26 25 [l0, l1, l2] L2 (v.toList ++ [t0]) S') := ev_call i26_22 rfl
theorem i26_25 : insAt 26 25 = some (.invokevirtual 116, 3, (28, 1, 2, 4), 99) := rfl
theorem s26_25 {c : Nat → List AV → SS → Option Out} {l0 l1 l2 : Option AV} {a0 : Int32} {j t : Nat} {L2 : List (Nat × AV)} {S : SS} : ev c 26 25 [l0, l1, l2] L2 [aI a0, aR (4, j, t)] S = ck (c 28 [aR (4, j, t), aI a0] S) (fun v S' => ev c 26 28 [l0, l1, l2] L2 (v.toList ++ []) S') := ev_call i26_25 rfl
theorem i26_28 : insAt 26 28 = some (.ireturn, 1, (0, 0, 0, 0), 0) := rfl
theorem s26_28 {c : Nat → List AV → SS → Option Out} {l0 l1 l2 : Option AV} {x : Int32} {L2 : List (Nat × AV)} {S : SS} : ev c 26 28 [l0, l1, l2] L2 [aI x] S = some (.inl (some (aI x)), S) := ev_end i26_28 rfl
theorem m26 {d : Nat} {o : OId} {a0 : Int32} {a1 : Int32} {S : SS} : evm (d + 1) 26 [aR o, aI a0, aI a1] S = ev (evm d) 26 0 [some (aR o), some (aI a0), some (aI a1)] [] [] S := evm_s (n := 3) rfl (Nat.le_of_ble_eq_true rfl) rfl rfl
/-! FrequencyOffice$Station.squaredTo(II)I -/
theorem i27_0 : insAt 27 0 = some (.aload_n 0, 1, (0, 0, 0, 0), 0) := rfl
theorem s27_0 {c : Nat → List AV → SS → Option Out} {l1 l2 : Option AV} {o : OId} {L2 : List (Nat × AV)} {St : List AV} {S : SS} : ev c 27 0 [some (aR o), l1, l2] L2 St S = ev c 27 1 [some (aR o), l1, l2] L2 (aR o :: St) S := ev_go i27_0 rfl
theorem i27_1 : insAt 27 1 = some (.getfield 13, 3, (10, 1, 0, 0), 100) := rfl
theorem s27_1 {c : Nat → List AV → SS → Option Out} {l0 l1 l2 : Option AV} {j t : Nat} {L2 : List (Nat × AV)} {St : List AV} {S : SS} : ev c 27 1 [l0, l1, l2] L2 (aR (10, j, t) :: St) S = ev c 27 4 [l0, l1, l2] L2 (aI (S.1 (10, j, t) 1) :: St) S := ev_go i27_1 rfl
theorem i27_4 : insAt 27 4 = some (.iload_n 1, 1, (0, 0, 0, 0), 0) := rfl
theorem s27_4 {c : Nat → List AV → SS → Option Out} {l0 l2 : Option AV} {x : Int32} {L2 : List (Nat × AV)} {St : List AV} {S : SS} : ev c 27 4 [l0, some (aI x), l2] L2 St S = ev c 27 5 [l0, some (aI x), l2] L2 (aI x :: St) S := ev_go i27_4 rfl
theorem i27_5 : insAt 27 5 = some (.isub, 1, (0, 0, 0, 0), 0) := rfl
theorem s27_5 {c : Nat → List AV → SS → Option Out} {l0 l1 l2 : Option AV} {x y : Int32} {L2 : List (Nat × AV)} {St : List AV} {S : SS} : ev c 27 5 [l0, l1, l2] L2 (aI y :: aI x :: St) S = ev c 27 6 [l0, l1, l2] L2 (aI (x - y) :: St) S := ev_go i27_5 rfl
theorem i27_6 : insAt 27 6 = some (.aload_n 0, 1, (0, 0, 0, 0), 0) := rfl
theorem s27_6 {c : Nat → List AV → SS → Option Out} {l1 l2 : Option AV} {o : OId} {L2 : List (Nat × AV)} {St : List AV} {S : SS} : ev c 27 6 [some (aR o), l1, l2] L2 St S = ev c 27 7 [some (aR o), l1, l2] L2 (aR o :: St) S := ev_go i27_6 rfl
theorem i27_7 : insAt 27 7 = some (.getfield 13, 3, (10, 1, 0, 0), 100) := rfl
theorem s27_7 {c : Nat → List AV → SS → Option Out} {l0 l1 l2 : Option AV} {j t : Nat} {L2 : List (Nat × AV)} {St : List AV} {S : SS} : ev c 27 7 [l0, l1, l2] L2 (aR (10, j, t) :: St) S = ev c 27 10 [l0, l1, l2] L2 (aI (S.1 (10, j, t) 1) :: St) S := ev_go i27_7 rfl
theorem i27_10 : insAt 27 10 = some (.iload_n 1, 1, (0, 0, 0, 0), 0) := rfl
theorem s27_10 {c : Nat → List AV → SS → Option Out} {l0 l2 : Option AV} {x : Int32} {L2 : List (Nat × AV)} {St : List AV} {S : SS} : ev c 27 10 [l0, some (aI x), l2] L2 St S = ev c 27 11 [l0, some (aI x), l2] L2 (aI x :: St) S := ev_go i27_10 rfl
theorem i27_11 : insAt 27 11 = some (.isub, 1, (0, 0, 0, 0), 0) := rfl
theorem s27_11 {c : Nat → List AV → SS → Option Out} {l0 l1 l2 : Option AV} {x y : Int32} {L2 : List (Nat × AV)} {St : List AV} {S : SS} : ev c 27 11 [l0, l1, l2] L2 (aI y :: aI x :: St) S = ev c 27 12 [l0, l1, l2] L2 (aI (x - y) :: St) S := ev_go i27_11 rfl
theorem i27_12 : insAt 27 12 = some (.imul, 1, (0, 0, 0, 0), 0) := rfl
theorem s27_12 {c : Nat → List AV → SS → Option Out} {l0 l1 l2 : Option AV} {x y : Int32} {L2 : List (Nat × AV)} {St : List AV} {S : SS} : ev c 27 12 [l0, l1, l2] L2 (aI y :: aI x :: St) S = ev c 27 13 [l0, l1, l2] L2 (aI (x * y) :: St) S := ev_go i27_12 rfl
theorem i27_13 : insAt 27 13 = some (.aload_n 0, 1, (0, 0, 0, 0), 0) := rfl
theorem s27_13 {c : Nat → List AV → SS → Option Out} {l1 l2 : Option AV} {o : OId} {L2 : List (Nat × AV)} {St : List AV} {S : SS} : ev c 27 13 [some (aR o), l1, l2] L2 St S = ev c 27 14 [some (aR o), l1, l2] L2 (aR o :: St) S := ev_go i27_13 rfl
theorem i27_14 : insAt 27 14 = some (.getfield 16, 3, (10, 2, 0, 0), 101) := rfl
theorem s27_14 {c : Nat → List AV → SS → Option Out} {l0 l1 l2 : Option AV} {j t : Nat} {L2 : List (Nat × AV)} {St : List AV} {S : SS} : ev c 27 14 [l0, l1, l2] L2 (aR (10, j, t) :: St) S = ev c 27 17 [l0, l1, l2] L2 (aI (S.1 (10, j, t) 2) :: St) S := ev_go i27_14 rfl
theorem i27_17 : insAt 27 17 = some (.iload_n 2, 1, (0, 0, 0, 0), 0) := rfl
theorem s27_17 {c : Nat → List AV → SS → Option Out} {l0 l1 : Option AV} {x : Int32} {L2 : List (Nat × AV)} {St : List AV} {S : SS} : ev c 27 17 [l0, l1, some (aI x)] L2 St S = ev c 27 18 [l0, l1, some (aI x)] L2 (aI x :: St) S := ev_go i27_17 rfl
theorem i27_18 : insAt 27 18 = some (.isub, 1, (0, 0, 0, 0), 0) := rfl
theorem s27_18 {c : Nat → List AV → SS → Option Out} {l0 l1 l2 : Option AV} {x y : Int32} {L2 : List (Nat × AV)} {St : List AV} {S : SS} : ev c 27 18 [l0, l1, l2] L2 (aI y :: aI x :: St) S = ev c 27 19 [l0, l1, l2] L2 (aI (x - y) :: St) S := ev_go i27_18 rfl
theorem i27_19 : insAt 27 19 = some (.aload_n 0, 1, (0, 0, 0, 0), 0) := rfl
theorem s27_19 {c : Nat → List AV → SS → Option Out} {l1 l2 : Option AV} {o : OId} {L2 : List (Nat × AV)} {St : List AV} {S : SS} : ev c 27 19 [some (aR o), l1, l2] L2 St S = ev c 27 20 [some (aR o), l1, l2] L2 (aR o :: St) S := ev_go i27_19 rfl
theorem i27_20 : insAt 27 20 = some (.getfield 16, 3, (10, 2, 0, 0), 101) := rfl
theorem s27_20 {c : Nat → List AV → SS → Option Out} {l0 l1 l2 : Option AV} {j t : Nat} {L2 : List (Nat × AV)} {St : List AV} {S : SS} : ev c 27 20 [l0, l1, l2] L2 (aR (10, j, t) :: St) S = ev c 27 23 [l0, l1, l2] L2 (aI (S.1 (10, j, t) 2) :: St) S := ev_go i27_20 rfl
theorem i27_23 : insAt 27 23 = some (.iload_n 2, 1, (0, 0, 0, 0), 0) := rfl
theorem s27_23 {c : Nat → List AV → SS → Option Out} {l0 l1 : Option AV} {x : Int32} {L2 : List (Nat × AV)} {St : List AV} {S : SS} : ev c 27 23 [l0, l1, some (aI x)] L2 St S = ev c 27 24 [l0, l1, some (aI x)] L2 (aI x :: St) S := ev_go i27_23 rfl
theorem i27_24 : insAt 27 24 = some (.isub, 1, (0, 0, 0, 0), 0) := rfl
theorem s27_24 {c : Nat → List AV → SS → Option Out} {l0 l1 l2 : Option AV} {x y : Int32} {L2 : List (Nat × AV)} {St : List AV} {S : SS} : ev c 27 24 [l0, l1, l2] L2 (aI y :: aI x :: St) S = ev c 27 25 [l0, l1, l2] L2 (aI (x - y) :: St) S := ev_go i27_24 rfl
theorem i27_25 : insAt 27 25 = some (.imul, 1, (0, 0, 0, 0), 0) := rfl
theorem s27_25 {c : Nat → List AV → SS → Option Out} {l0 l1 l2 : Option AV} {x y : Int32} {L2 : List (Nat × AV)} {St : List AV} {S : SS} : ev c 27 25 [l0, l1, l2] L2 (aI y :: aI x :: St) S = ev c 27 26 [l0, l1, l2] L2 (aI (x * y) :: St) S := ev_go i27_25 rfl
theorem i27_26 : insAt 27 26 = some (.iadd, 1, (0, 0, 0, 0), 0) := rfl
theorem s27_26 {c : Nat → List AV → SS → Option Out} {l0 l1 l2 : Option AV} {x y : Int32} {L2 : List (Nat × AV)} {St : List AV} {S : SS} : ev c 27 26 [l0, l1, l2] L2 (aI y :: aI x :: St) S = ev c 27 27 [l0, l1, l2] L2 (aI (x + y) :: St) S := ev_go i27_26 rfl
theorem i27_27 : insAt 27 27 = some (.ireturn, 1, (0, 0, 0, 0), 0) := rfl
theorem s27_27 {c : Nat → List AV → SS → Option Out} {l0 l1 l2 : Option AV} {x : Int32} {L2 : List (Nat × AV)} {S : SS} : ev c 27 27 [l0, l1, l2] L2 [aI x] S = some (.inl (some (aI x)), S) := ev_end i27_27 rfl
theorem m27 {d : Nat} {o : OId} {a0 : Int32} {a1 : Int32} {S : SS} : evm (d + 1) 27 [aR o, aI a0, aI a1] S = ev (evm d) 27 0 [some (aR o), some (aI a0), some (aI a1)] [] [] S := evm_s (n := 3) rfl (Nat.le_of_ble_eq_true rfl) rfl rfl
/-! FrequencyOffice$Books.baseAt(I)I -/
theorem i28_0 : insAt 28 0 = some (.iload_n 1, 1, (0, 0, 0, 0), 0) := rfl
theorem s28_0 {c : Nat → List AV → SS → Option Out} {l0 : Option AV} {x : Int32} {L2 : List (Nat × AV)} {St : List AV} {S : SS} : ev c 28 0 [l0, some (aI x)] L2 St S = ev c 28 1 [l0, some (aI x)] L2 (aI x :: St) S := ev_go i28_0 rfl
theorem i28_1 : insAt 28 1 = some (.aload_n 0, 1, (0, 0, 0, 0), 0) := rfl
theorem s28_1 {c : Nat → List AV → SS → Option Out} {l1 : Option AV} {o : OId} {L2 : List (Nat × AV)} {St : List AV} {S : SS} : ev c 28 1 [some (aR o), l1] L2 St S = ev c 28 2 [some (aR o), l1] L2 (aR o :: St) S := ev_go i28_1 rfl
theorem i28_2 : insAt 28 2 = some (.getfield 9, 3, (4, 0, 0, 0), 21) := rfl
theorem s28_2 {c : Nat → List AV → SS → Option Out} {l0 l1 : Option AV} {j t : Nat} {L2 : List (Nat × AV)} {St : List AV} {S : SS} : ev c 28 2 [l0, l1] L2 (aR (4, j, t) :: St) S = ev c 28 5 [l0, l1] L2 (aI (S.1 (4, j, t) 0) :: St) S := ev_go i28_2 rfl
theorem i28_5 : insAt 28 5 = some (.aload_n 0, 1, (0, 0, 0, 0), 0) := rfl
theorem s28_5 {c : Nat → List AV → SS → Option Out} {l1 : Option AV} {o : OId} {L2 : List (Nat × AV)} {St : List AV} {S : SS} : ev c 28 5 [some (aR o), l1] L2 St S = ev c 28 6 [some (aR o), l1] L2 (aR o :: St) S := ev_go i28_5 rfl
theorem i28_6 : insAt 28 6 = some (.getfield 9, 3, (4, 0, 0, 0), 21) := rfl
theorem s28_6 {c : Nat → List AV → SS → Option Out} {l0 l1 : Option AV} {j t : Nat} {L2 : List (Nat × AV)} {St : List AV} {S : SS} : ev c 28 6 [l0, l1] L2 (aR (4, j, t) :: St) S = ev c 28 9 [l0, l1] L2 (aI (S.1 (4, j, t) 0) :: St) S := ev_go i28_6 rfl
theorem i28_9 : insAt 28 9 = some (.imul, 1, (0, 0, 0, 0), 0) := rfl
theorem s28_9 {c : Nat → List AV → SS → Option Out} {l0 l1 : Option AV} {x y : Int32} {L2 : List (Nat × AV)} {St : List AV} {S : SS} : ev c 28 9 [l0, l1] L2 (aI y :: aI x :: St) S = ev c 28 10 [l0, l1] L2 (aI (x * y) :: St) S := ev_go i28_9 rfl
theorem i28_10 : insAt 28 10 = some (.if_icmp .ge 5, 3, (0, 0, 0, 0), 0) := rfl
theorem s28_10 {c : Nat → List AV → SS → Option Out} {l0 l1 : Option AV} {x y : Int32} {L2 : List (Nat × AV)} {St : List AV} {S : SS} : ev c 28 10 [l0, l1] L2 (aI y :: aI x :: St) S = if y ≤ x then ev c 28 15 [l0, l1] L2 St S else ev c 28 13 [l0, l1] L2 St S := ev_br i28_10 rfl
theorem i28_13 : insAt 28 13 = some (.iconst 3, 1, (0, 0, 0, 0), 0) := rfl
theorem s28_13 {c : Nat → List AV → SS → Option Out} {l0 l1 : Option AV} {L2 : List (Nat × AV)} {St : List AV} {S : SS} : ev c 28 13 [l0, l1] L2 St S = ev c 28 14 [l0, l1] L2 (aI 3 :: St) S := ev_go i28_13 rfl
theorem i28_14 : insAt 28 14 = some (.ireturn, 1, (0, 0, 0, 0), 0) := rfl
theorem s28_14 {c : Nat → List AV → SS → Option Out} {l0 l1 : Option AV} {x : Int32} {L2 : List (Nat × AV)} {S : SS} : ev c 28 14 [l0, l1] L2 [aI x] S = some (.inl (some (aI x)), S) := ev_end i28_14 rfl
theorem i28_15 : insAt 28 15 = some (.iload_n 1, 1, (0, 0, 0, 0), 0) := rfl
theorem s28_15 {c : Nat → List AV → SS → Option Out} {l0 : Option AV} {x : Int32} {L2 : List (Nat × AV)} {St : List AV} {S : SS} : ev c 28 15 [l0, some (aI x)] L2 St S = ev c 28 16 [l0, some (aI x)] L2 (aI x :: St) S := ev_go i28_15 rfl
theorem i28_16 : insAt 28 16 = some (.aload_n 0, 1, (0, 0, 0, 0), 0) := rfl
theorem s28_16 {c : Nat → List AV → SS → Option Out} {l1 : Option AV} {o : OId} {L2 : List (Nat × AV)} {St : List AV} {S : SS} : ev c 28 16 [some (aR o), l1] L2 St S = ev c 28 17 [some (aR o), l1] L2 (aR o :: St) S := ev_go i28_16 rfl
theorem i28_17 : insAt 28 17 = some (.getfield 15, 3, (4, 1, 0, 0), 22) := rfl
theorem s28_17 {c : Nat → List AV → SS → Option Out} {l0 l1 : Option AV} {j t : Nat} {L2 : List (Nat × AV)} {St : List AV} {S : SS} : ev c 28 17 [l0, l1] L2 (aR (4, j, t) :: St) S = ev c 28 20 [l0, l1] L2 (aI (S.1 (4, j, t) 1) :: St) S := ev_go i28_17 rfl
theorem i28_20 : insAt 28 20 = some (.aload_n 0, 1, (0, 0, 0, 0), 0) := rfl
theorem s28_20 {c : Nat → List AV → SS → Option Out} {l1 : Option AV} {o : OId} {L2 : List (Nat × AV)} {St : List AV} {S : SS} : ev c 28 20 [some (aR o), l1] L2 St S = ev c 28 21 [some (aR o), l1] L2 (aR o :: St) S := ev_go i28_20 rfl
theorem i28_21 : insAt 28 21 = some (.getfield 15, 3, (4, 1, 0, 0), 22) := rfl
theorem s28_21 {c : Nat → List AV → SS → Option Out} {l0 l1 : Option AV} {j t : Nat} {L2 : List (Nat × AV)} {St : List AV} {S : SS} : ev c 28 21 [l0, l1] L2 (aR (4, j, t) :: St) S = ev c 28 24 [l0, l1] L2 (aI (S.1 (4, j, t) 1) :: St) S := ev_go i28_21 rfl
theorem i28_24 : insAt 28 24 = some (.imul, 1, (0, 0, 0, 0), 0) := rfl
theorem s28_24 {c : Nat → List AV → SS → Option Out} {l0 l1 : Option AV} {x y : Int32} {L2 : List (Nat × AV)} {St : List AV} {S : SS} : ev c 28 24 [l0, l1] L2 (aI y :: aI x :: St) S = ev c 28 25 [l0, l1] L2 (aI (x * y) :: St) S := ev_go i28_24 rfl
theorem i28_25 : insAt 28 25 = some (.if_icmp .ge 5, 3, (0, 0, 0, 0), 0) := rfl
theorem s28_25 {c : Nat → List AV → SS → Option Out} {l0 l1 : Option AV} {x y : Int32} {L2 : List (Nat × AV)} {St : List AV} {S : SS} : ev c 28 25 [l0, l1] L2 (aI y :: aI x :: St) S = if y ≤ x then ev c 28 30 [l0, l1] L2 St S else ev c 28 28 [l0, l1] L2 St S := ev_br i28_25 rfl
theorem i28_28 : insAt 28 28 = some (.iconst 2, 1, (0, 0, 0, 0), 0) := rfl
theorem s28_28 {c : Nat → List AV → SS → Option Out} {l0 l1 : Option AV} {L2 : List (Nat × AV)} {St : List AV} {S : SS} : ev c 28 28 [l0, l1] L2 St S = ev c 28 29 [l0, l1] L2 (aI 2 :: St) S := ev_go i28_28 rfl
theorem i28_29 : insAt 28 29 = some (.ireturn, 1, (0, 0, 0, 0), 0) := rfl
theorem s28_29 {c : Nat → List AV → SS → Option Out} {l0 l1 : Option AV} {x : Int32} {L2 : List (Nat × AV)} {S : SS} : ev c 28 29 [l0, l1] L2 [aI x] S = some (.inl (some (aI x)), S) := ev_end i28_29 rfl
theorem i28_30 : insAt 28 30 = some (.iload_n 1, 1, (0, 0, 0, 0), 0) := rfl
theorem s28_30 {c : Nat → List AV → SS → Option Out} {l0 : Option AV} {x : Int32} {L2 : List (Nat × AV)} {St : List AV} {S : SS} : ev c 28 30 [l0, some (aI x)] L2 St S = ev c 28 31 [l0, some (aI x)] L2 (aI x :: St) S := ev_go i28_30 rfl
theorem i28_31 : insAt 28 31 = some (.aload_n 0, 1, (0, 0, 0, 0), 0) := rfl
theorem s28_31 {c : Nat → List AV → SS → Option Out} {l1 : Option AV} {o : OId} {L2 : List (Nat × AV)} {St : List AV} {S : SS} : ev c 28 31 [some (aR o), l1] L2 St S = ev c 28 32 [some (aR o), l1] L2 (aR o :: St) S := ev_go i28_31 rfl
theorem i28_32 : insAt 28 32 = some (.getfield 18, 3, (4, 2, 0, 0), 23) := rfl
theorem s28_32 {c : Nat → List AV → SS → Option Out} {l0 l1 : Option AV} {j t : Nat} {L2 : List (Nat × AV)} {St : List AV} {S : SS} : ev c 28 32 [l0, l1] L2 (aR (4, j, t) :: St) S = ev c 28 35 [l0, l1] L2 (aI (S.1 (4, j, t) 2) :: St) S := ev_go i28_32 rfl
theorem i28_35 : insAt 28 35 = some (.aload_n 0, 1, (0, 0, 0, 0), 0) := rfl
theorem s28_35 {c : Nat → List AV → SS → Option Out} {l1 : Option AV} {o : OId} {L2 : List (Nat × AV)} {St : List AV} {S : SS} : ev c 28 35 [some (aR o), l1] L2 St S = ev c 28 36 [some (aR o), l1] L2 (aR o :: St) S := ev_go i28_35 rfl
theorem i28_36 : insAt 28 36 = some (.getfield 18, 3, (4, 2, 0, 0), 23) := rfl
theorem s28_36 {c : Nat → List AV → SS → Option Out} {l0 l1 : Option AV} {j t : Nat} {L2 : List (Nat × AV)} {St : List AV} {S : SS} : ev c 28 36 [l0, l1] L2 (aR (4, j, t) :: St) S = ev c 28 39 [l0, l1] L2 (aI (S.1 (4, j, t) 2) :: St) S := ev_go i28_36 rfl
theorem i28_39 : insAt 28 39 = some (.imul, 1, (0, 0, 0, 0), 0) := rfl
theorem s28_39 {c : Nat → List AV → SS → Option Out} {l0 l1 : Option AV} {x y : Int32} {L2 : List (Nat × AV)} {St : List AV} {S : SS} : ev c 28 39 [l0, l1] L2 (aI y :: aI x :: St) S = ev c 28 40 [l0, l1] L2 (aI (x * y) :: St) S := ev_go i28_39 rfl
theorem i28_40 : insAt 28 40 = some (.if_icmp .ge 7, 3, (0, 0, 0, 0), 0) := rfl
theorem s28_40 {c : Nat → List AV → SS → Option Out} {l0 l1 : Option AV} {x y : Int32} {L2 : List (Nat × AV)} {St : List AV} {S : SS} : ev c 28 40 [l0, l1] L2 (aI y :: aI x :: St) S = if y ≤ x then ev c 28 47 [l0, l1] L2 St S else ev c 28 43 [l0, l1] L2 St S := ev_br i28_40 rfl
theorem i28_43 : insAt 28 43 = some (.iconst 1, 1, (0, 0, 0, 0), 0) := rfl
theorem s28_43 {c : Nat → List AV → SS → Option Out} {l0 l1 : Option AV} {L2 : List (Nat × AV)} {St : List AV} {S : SS} : ev c 28 43 [l0, l1] L2 St S = ev c 28 44 [l0, l1] L2 (aI 1 :: St) S := ev_go i28_43 rfl
theorem i28_44 : insAt 28 44 = some (.goto 4, 3, (0, 0, 0, 0), 0) := rfl
theorem s28_44 {c : Nat → List AV → SS → Option Out} {l0 l1 : Option AV} {L2 : List (Nat × AV)} {St : List AV} {S : SS} : ev c 28 44 [l0, l1] L2 St S = ev c 28 48 [l0, l1] L2 St S := ev_go i28_44 rfl
theorem i28_47 : insAt 28 47 = some (.iconst 0, 1, (0, 0, 0, 0), 0) := rfl
theorem s28_47 {c : Nat → List AV → SS → Option Out} {l0 l1 : Option AV} {L2 : List (Nat × AV)} {St : List AV} {S : SS} : ev c 28 47 [l0, l1] L2 St S = ev c 28 48 [l0, l1] L2 (aI 0 :: St) S := ev_go i28_47 rfl
theorem i28_48 : insAt 28 48 = some (.ireturn, 1, (0, 0, 0, 0), 0) := rfl
theorem s28_48 {c : Nat → List AV → SS → Option Out} {l0 l1 : Option AV} {x : Int32} {L2 : List (Nat × AV)} {S : SS} : ev c 28 48 [l0, l1] L2 [aI x] S = some (.inl (some (aI x)), S) := ev_end i28_48 rfl
theorem m28 {d : Nat} {o : OId} {a0 : Int32} {S : SS} : evm (d + 1) 28 [aR o, aI a0] S = ev (evm d) 28 0 [some (aR o), some (aI a0)] [] [] S := evm_s (n := 2) rfl (Nat.le_of_ble_eq_true rfl) rfl rfl
/-! FrequencyOffice$Books.complaintsBetween(II)I -/
theorem i29_0 : insAt 29 0 = some (.aload_n 0, 1, (0, 0, 0, 0), 0) := rfl
theorem s29_0 {c : Nat → List AV → SS → Option Out} {l1 l2 : Option AV} {o : OId} {L2 : List (Nat × AV)} {St : List AV} {S : SS} : ev c 29 0 [some (aR o), l1, l2] L2 St S = ev c 29 1 [some (aR o), l1, l2] L2 (aR o :: St) S := ev_go i29_0 rfl
theorem i29_1 : insAt 29 1 = some (.getfield 47, 3, (4, 10, 0, 0), 33) := rfl
theorem s29_1 {c : Nat → List AV → SS → Option Out} {l0 l1 l2 : Option AV} {j t : Nat} {L2 : List (Nat × AV)} {St : List AV} {S : SS} : ev c 29 1 [l0, l1, l2] L2 (aR (4, j, t) :: St) S = ev c 29 4 [l0, l1, l2] L2 (S.2.2.1 (4, j, t) 10 :: St) S := ev_go i29_1 rfl
theorem i29_4 : insAt 29 4 = some (.iload_n 1, 1, (0, 0, 0, 0), 0) := rfl
theorem s29_4 {c : Nat → List AV → SS → Option Out} {l0 l2 : Option AV} {x : Int32} {L2 : List (Nat × AV)} {St : List AV} {S : SS} : ev c 29 4 [l0, some (aI x), l2] L2 St S = ev c 29 5 [l0, some (aI x), l2] L2 (aI x :: St) S := ev_go i29_4 rfl
theorem i29_5 : insAt 29 5 = some (.iload_n 2, 1, (0, 0, 0, 0), 0) := rfl
theorem s29_5 {c : Nat → List AV → SS → Option Out} {l0 l1 : Option AV} {x : Int32} {L2 : List (Nat × AV)} {St : List AV} {S : SS} : ev c 29 5 [l0, l1, some (aI x)] L2 St S = ev c 29 6 [l0, l1, some (aI x)] L2 (aI x :: St) S := ev_go i29_5 rfl
theorem i29_6 : insAt 29 6 = some (.invokestatic 99, 3, (30, 2, 1, 0), 102) := rfl
theorem s29_6 {c : Nat → List AV → SS → Option Out} {l0 l1 l2 : Option AV} {t0 : AV} {a0 : Int32} {a1 : Int32} {L2 : List (Nat × AV)} {S : SS} : ev c 29 6 [l0, l1, l2] L2 [aI a1, aI a0, t0] S = ck (c 30 [aI a0, aI a1] S) (fun v S' => ev c 29 9 [l0, l1, l2] L2 (v.toList ++ [t0]) S') := ev_call i29_6 rfl
theorem i29_9 : insAt 29 9 = some (.invokestatic 119, 3, (31, 2, 1, 0), 103) := rfl
theorem s29_9 {c : Nat → List AV → SS → Option Out} {l0 l1 l2 : Option AV} {a0 : OId} {a1 : Int32} {L2 : List (Nat × AV)} {S : SS} : ev c 29 9 [l0, l1, l2] L2 [aI a1, aR a0] S = ck (c 31 [aR a0, aI a1] S) (fun v S' => ev c 29 12 [l0, l1, l2] L2 (v.toList ++ []) S') := ev_call i29_9 rfl
theorem i29_12 : insAt 29 12 = some (.ireturn, 1, (0, 0, 0, 0), 0) := rfl
theorem s29_12 {c : Nat → List AV → SS → Option Out} {l0 l1 l2 : Option AV} {x : Int32} {L2 : List (Nat × AV)} {S : SS} : ev c 29 12 [l0, l1, l2] L2 [aI x] S = some (.inl (some (aI x)), S) := ev_end i29_12 rfl
theorem m29 {d : Nat} {o : OId} {a0 : Int32} {a1 : Int32} {S : SS} : evm (d + 1) 29 [aR o, aI a0, aI a1] S = ev (evm d) 29 0 [some (aR o), some (aI a0), some (aI a1)] [] [] S := evm_s (n := 3) rfl (Nat.le_of_ble_eq_true rfl) rfl rfl
/-! FrequencyOffice$Net.load(LFrequencyOffice$Books;I)V -/
theorem i33_0 : insAt 33 0 = some (.aload_n 0, 1, (0, 0, 0, 0), 0) := rfl
theorem s33_0 {c : Nat → List AV → SS → Option Out} {l1 l2 l3 : Option AV} {o : OId} {L2 : List (Nat × AV)} {St : List AV} {S : SS} : ev c 33 0 [some (aR o), l1, l2, l3] L2 St S = ev c 33 1 [some (aR o), l1, l2, l3] L2 (aR o :: St) S := ev_go i33_0 rfl
theorem i33_1 : insAt 33 1 = some (.iconst 0, 1, (0, 0, 0, 0), 0) := rfl
theorem s33_1 {c : Nat → List AV → SS → Option Out} {l0 l1 l2 l3 : Option AV} {L2 : List (Nat × AV)} {St : List AV} {S : SS} : ev c 33 1 [l0, l1, l2, l3] L2 St S = ev c 33 2 [l0, l1, l2, l3] L2 (aI 0 :: St) S := ev_go i33_1 rfl
theorem i33_2 : insAt 33 2 = some (.putfield 9, 3, (6, 0, 0, 0), 51) := rfl
theorem s33_2 {c : Nat → List AV → SS → Option Out} {l0 l1 l2 l3 : Option AV} {j t : Nat} {x : Int32} {L2 : List (Nat × AV)} {St : List AV} {S : SS} : ev c 33 2 [l0, l1, l2, l3] L2 (aI x :: aR (6, j, t) :: St) S = ev c 33 5 [l0, l1, l2, l3] L2 St (setI S.1 (6, j, t) 0 x, S.2) := ev_go i33_2 rfl
theorem i33_5 : insAt 33 5 = some (.iconst 0, 1, (0, 0, 0, 0), 0) := rfl
theorem s33_5 {c : Nat → List AV → SS → Option Out} {l0 l1 l2 l3 : Option AV} {L2 : List (Nat × AV)} {St : List AV} {S : SS} : ev c 33 5 [l0, l1, l2, l3] L2 St S = ev c 33 6 [l0, l1, l2, l3] L2 (aI 0 :: St) S := ev_go i33_5 rfl
theorem i33_6 : insAt 33 6 = some (.istore_n 3, 1, (0, 0, 0, 0), 0) := rfl
theorem s33_6 {c : Nat → List AV → SS → Option Out} {l0 l1 l2 l3 : Option AV} {x : Int32} {L2 : List (Nat × AV)} {St : List AV} {S : SS} : ev c 33 6 [l0, l1, l2, l3] L2 (aI x :: St) S = ev c 33 7 [l0, l1, l2, some (aI x)] (kil L2 3) St S := ev_go i33_6 rfl
theorem i33_7 : insAt 33 7 = some (.iload_n 3, 1, (0, 0, 0, 0), 0) := rfl
theorem s33_7 {c : Nat → List AV → SS → Option Out} {l0 l1 l2 : Option AV} {x : Int32} {L2 : List (Nat × AV)} {St : List AV} {S : SS} : ev c 33 7 [l0, l1, l2, some (aI x)] L2 St S = ev c 33 8 [l0, l1, l2, some (aI x)] L2 (aI x :: St) S := ev_go i33_7 rfl
theorem i33_8 : insAt 33 8 = some (.aload_n 1, 1, (0, 0, 0, 0), 0) := rfl
theorem s33_8 {c : Nat → List AV → SS → Option Out} {l0 l2 l3 : Option AV} {o : OId} {L2 : List (Nat × AV)} {St : List AV} {S : SS} : ev c 33 8 [l0, some (aR o), l2, l3] L2 St S = ev c 33 9 [l0, some (aR o), l2, l3] L2 (aR o :: St) S := ev_go i33_8 rfl
theorem i33_9 : insAt 33 9 = some (.getfield 28, 3, (4, 7, 1, 0), 107) := rfl
theorem s33_9 {c : Nat → List AV → SS → Option Out} {l0 l1 l2 l3 : Option AV} {j t : Nat} {L2 : List (Nat × AV)} {St : List AV} {S : SS} : ev c 33 9 [l0, l1, l2, l3] L2 (aR (4, j, t) :: St) S = ev c 33 12 [l0, l1, l2, l3] L2 (aI (S.1 (4, j, t) 7) :: St) S := ev_go i33_9 rfl
theorem i33_12 : insAt 33 12 = some (.if_icmp .ge 31, 3, (0, 0, 0, 0), 0) := rfl
theorem s33_12 {c : Nat → List AV → SS → Option Out} {l0 l1 l2 l3 : Option AV} {x y : Int32} {L2 : List (Nat × AV)} {St : List AV} {S : SS} : ev c 33 12 [l0, l1, l2, l3] L2 (aI y :: aI x :: St) S = if y ≤ x then ev c 33 43 [l0, l1, l2, l3] L2 St S else ev c 33 15 [l0, l1, l2, l3] L2 St S := ev_br i33_12 rfl
theorem i33_15 : insAt 33 15 = some (.iload_n 3, 1, (0, 0, 0, 0), 0) := rfl
theorem s33_15 {c : Nat → List AV → SS → Option Out} {l0 l1 l2 : Option AV} {x : Int32} {L2 : List (Nat × AV)} {St : List AV} {S : SS} : ev c 33 15 [l0, l1, l2, some (aI x)] L2 St S = ev c 33 16 [l0, l1, l2, some (aI x)] L2 (aI x :: St) S := ev_go i33_15 rfl
theorem i33_16 : insAt 33 16 = some (.iload_n 2, 1, (0, 0, 0, 0), 0) := rfl
theorem s33_16 {c : Nat → List AV → SS → Option Out} {l0 l1 l3 : Option AV} {x : Int32} {L2 : List (Nat × AV)} {St : List AV} {S : SS} : ev c 33 16 [l0, l1, some (aI x), l3] L2 St S = ev c 33 17 [l0, l1, some (aI x), l3] L2 (aI x :: St) S := ev_go i33_16 rfl
theorem i33_17 : insAt 33 17 = some (.if_icmp .eq 20, 3, (0, 0, 0, 0), 0) := rfl
theorem s33_17 {c : Nat → List AV → SS → Option Out} {l0 l1 l2 l3 : Option AV} {x y : Int32} {L2 : List (Nat × AV)} {St : List AV} {S : SS} : ev c 33 17 [l0, l1, l2, l3] L2 (aI y :: aI x :: St) S = if x = y then ev c 33 37 [l0, l1, l2, l3] L2 St S else ev c 33 20 [l0, l1, l2, l3] L2 St S := ev_br i33_17 rfl
theorem i33_20 : insAt 33 20 = some (.aload_n 1, 1, (0, 0, 0, 0), 0) := rfl
theorem s33_20 {c : Nat → List AV → SS → Option Out} {l0 l2 l3 : Option AV} {o : OId} {L2 : List (Nat × AV)} {St : List AV} {S : SS} : ev c 33 20 [l0, some (aR o), l2, l3] L2 St S = ev c 33 21 [l0, some (aR o), l2, l3] L2 (aR o :: St) S := ev_go i33_20 rfl
theorem i33_21 : insAt 33 21 = some (.iload_n 3, 1, (0, 0, 0, 0), 0) := rfl
theorem s33_21 {c : Nat → List AV → SS → Option Out} {l0 l1 l2 : Option AV} {x : Int32} {L2 : List (Nat × AV)} {St : List AV} {S : SS} : ev c 33 21 [l0, l1, l2, some (aI x)] L2 St S = ev c 33 22 [l0, l1, l2, some (aI x)] L2 (aI x :: St) S := ev_go i33_21 rfl
theorem i33_22 : insAt 33 22 = some (.invokevirtual 33, 3, (17, 1, 3, 4), 108) := rfl
theorem s33_22 {c : Nat → List AV → SS → Option Out} {l0 l1 l2 l3 : Option AV} {a0 : Int32} {j t : Nat} {L2 : List (Nat × AV)} {S : SS} : ev c 33 22 [l0, l1, l2, l3] L2 [aI a0, aR (4, j, t)] S = ck (c 17 [aR (4, j, t), aI a0] S) (fun v S' => ev c 33 25 [l0, l1, l2, l3] L2 (v.toList ++ []) S') := ev_call i33_22 rfl
theorem i33_25 : insAt 33 25 = some (.getfield 37, 3, (10, 5, 1, 0), 109) := rfl
theorem s33_25 {c : Nat → List AV → SS → Option Out} {l0 l1 l2 l3 : Option AV} {j t : Nat} {L2 : List (Nat × AV)} {St : List AV} {S : SS} : ev c 33 25 [l0, l1, l2, l3] L2 (aR (10, j, t) :: St) S = ev c 33 28 [l0, l1, l2, l3] L2 (aI (bb (S.1 (10, j, t) 5)) :: St) S := ev_go i33_25 rfl
theorem i33_28 : insAt 33 28 = some (.ifCond .ne 9, 3, (0, 0, 0, 0), 0) := rfl
theorem s33_28 {c : Nat → List AV → SS → Option Out} {l0 l1 l2 l3 : Option AV} {x : Int32} {L2 : List (Nat × AV)} {St : List AV} {S : SS} : ev c 33 28 [l0, l1, l2, l3] L2 (aI x :: St) S = if x = 0 then ev c 33 31 [l0, l1, l2, l3] L2 St S else ev c 33 37 [l0, l1, l2, l3] L2 St S := (ev_br i33_28 rfl).trans (ite_not _ _ _)
theorem i33_31 : insAt 33 31 = some (.aload_n 0, 1, (0, 0, 0, 0), 0) := rfl
theorem s33_31 {c : Nat → List AV → SS → Option Out} {l1 l2 l3 : Option AV} {o : OId} {L2 : List (Nat × AV)} {St : List AV} {S : SS} : ev c 33 31 [some (aR o), l1, l2, l3] L2 St S = ev c 33 32 [some (aR o), l1, l2, l3] L2 (aR o :: St) S := ev_go i33_31 rfl
theorem i33_32 : insAt 33 32 = some (.aload_n 1, 1, (0, 0, 0, 0), 0) := rfl
theorem s33_32 {c : Nat → List AV → SS → Option Out} {l0 l2 l3 : Option AV} {o : OId} {L2 : List (Nat × AV)} {St : List AV} {S : SS} : ev c 33 32 [l0, some (aR o), l2, l3] L2 St S = ev c 33 33 [l0, some (aR o), l2, l3] L2 (aR o :: St) S := ev_go i33_32 rfl
theorem i33_33 : insAt 33 33 = some (.iload_n 3, 1, (0, 0, 0, 0), 0) := rfl
theorem s33_33 {c : Nat → List AV → SS → Option Out} {l0 l1 l2 : Option AV} {x : Int32} {L2 : List (Nat × AV)} {St : List AV} {S : SS} : ev c 33 33 [l0, l1, l2, some (aI x)] L2 St S = ev c 33 34 [l0, l1, l2, some (aI x)] L2 (aI x :: St) S := ev_go i33_33 rfl
theorem i33_34 : insAt 33 34 = some (.invokevirtual 43, 3, (34, 2, 2, 6), 110) := rfl
theorem s33_34 {c : Nat → List AV → SS → Option Out} {l0 l1 l2 l3 : Option AV} {a0 : OId} {a1 : Int32} {j t : Nat} {L2 : List (Nat × AV)} {S : SS} : ev c 33 34 [l0, l1, l2, l3] L2 [aI a1, aR a0, aR (6, j, t)] S = ck (c 34 [aR (6, j, t), aR a0, aI a1] S) (fun v S' => ev c 33 37 [l0, l1, l2, l3] L2 (v.toList ++ []) S') := ev_call i33_34 rfl
theorem i33_37 : insAt 33 37 = some (.iinc 3 1, 3, (0, 0, 0, 0), 0) := rfl
theorem s33_37 {c : Nat → List AV → SS → Option Out} {l0 l1 l2 : Option AV} {x : Int32} {L2 : List (Nat × AV)} {St : List AV} {S : SS} : ev c 33 37 [l0, l1, l2, some (aI x)] L2 St S = ev c 33 40 [l0, l1, l2, some (aI (x + 1))] (kil L2 3) St S := ev_go i33_37 rfl
theorem i33_40 : insAt 33 40 = some (.goto (-33), 3, (0, 0, 0, 0), 0) := rfl
theorem s33_40 {c : Nat → List AV → SS → Option Out} {l0 l1 l2 l3 : Option AV} {L2 : List (Nat × AV)} {St : List AV} {S : SS} : ev c 33 40 [l0, l1, l2, l3] L2 St S = ev c 33 7 [l0, l1, l2, l3] L2 St S := ev_go i33_40 rfl
theorem i33_43 : insAt 33 43 = some (.return_, 1, (0, 0, 0, 0), 0) := rfl
theorem s33_43 {c : Nat → List AV → SS → Option Out} {l0 l1 l2 l3 : Option AV} {L2 : List (Nat × AV)} {S : SS} : ev c 33 43 [l0, l1, l2, l3] L2 [] S = some (.inl none, S) := ev_end i33_43 rfl
theorem m33 {d : Nat} {o : OId} {a0 : OId} {a1 : Int32} {S : SS} : evm (d + 1) 33 [aR o, aR a0, aI a1] S = ev (evm d) 33 0 [some (aR o), some (aR a0), some (aI a1), none] [] [] S := evm_s (n := 4) rfl (Nat.le_of_ble_eq_true rfl) rfl rfl
/-! FrequencyOffice$Net.append(LFrequencyOffice$Books;I)V -/
theorem i34_0 : insAt 34 0 = some (.iconst 0, 1, (0, 0, 0, 0), 0) := rfl
theorem s34_0 {c : Nat → List AV → SS → Option Out} {l0 l1 l2 l3 l4 : Option AV} {L2 : List (Nat × AV)} {St : List AV} {S : SS} : ev c 34 0 [l0, l1, l2, l3, l4] L2 St S = ev c 34 1 [l0, l1, l2, l3, l4] L2 (aI 0 :: St) S := ev_go i34_0 rfl
theorem i34_1 : insAt 34 1 = some (.istore_n 3, 1, (0, 0, 0, 0), 0) := rfl
theorem s34_1 {c : Nat → List AV → SS → Option Out} {l0 l1 l2 l3 l4 : Option AV} {x : Int32} {L2 : List (Nat × AV)} {St : List AV} {S : SS} : ev c 34 1 [l0, l1, l2, l3, l4] L2 (aI x :: St) S = ev c 34 2 [l0, l1, l2, some (aI x), l4] (kil L2 3) St S := ev_go i34_1 rfl
theorem i34_2 : insAt 34 2 = some (.iload_n 3, 1, (0, 0, 0, 0), 0) := rfl
theorem s34_2 {c : Nat → List AV → SS → Option Out} {l0 l1 l2 l4 : Option AV} {x : Int32} {L2 : List (Nat × AV)} {St : List AV} {S : SS} : ev c 34 2 [l0, l1, l2, some (aI x), l4] L2 St S = ev c 34 3 [l0, l1, l2, some (aI x), l4] L2 (aI x :: St) S := ev_go i34_2 rfl
theorem i34_3 : insAt 34 3 = some (.aload_n 0, 1, (0, 0, 0, 0), 0) := rfl
theorem s34_3 {c : Nat → List AV → SS → Option Out} {l1 l2 l3 l4 : Option AV} {o : OId} {L2 : List (Nat × AV)} {St : List AV} {S : SS} : ev c 34 3 [some (aR o), l1, l2, l3, l4] L2 St S = ev c 34 4 [some (aR o), l1, l2, l3, l4] L2 (aR o :: St) S := ev_go i34_3 rfl
theorem i34_4 : insAt 34 4 = some (.getfield 9, 3, (6, 0, 0, 0), 51) := rfl
theorem s34_4 {c : Nat → List AV → SS → Option Out} {l0 l1 l2 l3 l4 : Option AV} {j t : Nat} {L2 : List (Nat × AV)} {St : List AV} {S : SS} : ev c 34 4 [l0, l1, l2, l3, l4] L2 (aR (6, j, t) :: St) S = ev c 34 7 [l0, l1, l2, l3, l4] L2 (aI (S.1 (6, j, t) 0) :: St) S := ev_go i34_4 rfl
theorem i34_7 : insAt 34 7 = some (.if_icmp .ge 58, 3, (0, 0, 0, 0), 0) := rfl
theorem s34_7 {c : Nat → List AV → SS → Option Out} {l0 l1 l2 l3 l4 : Option AV} {x y : Int32} {L2 : List (Nat × AV)} {St : List AV} {S : SS} : ev c 34 7 [l0, l1, l2, l3, l4] L2 (aI y :: aI x :: St) S = if y ≤ x then ev c 34 65 [l0, l1, l2, l3, l4] L2 St S else ev c 34 10 [l0, l1, l2, l3, l4] L2 St S := ev_br i34_7 rfl
theorem i34_10 : insAt 34 10 = some (.aload_n 1, 1, (0, 0, 0, 0), 0) := rfl
theorem s34_10 {c : Nat → List AV → SS → Option Out} {l0 l2 l3 l4 : Option AV} {o : OId} {L2 : List (Nat × AV)} {St : List AV} {S : SS} : ev c 34 10 [l0, some (aR o), l2, l3, l4] L2 St S = ev c 34 11 [l0, some (aR o), l2, l3, l4] L2 (aR o :: St) S := ev_go i34_10 rfl
theorem i34_11 : insAt 34 11 = some (.aload_n 0, 1, (0, 0, 0, 0), 0) := rfl
theorem s34_11 {c : Nat → List AV → SS → Option Out} {l1 l2 l3 l4 : Option AV} {o : OId} {L2 : List (Nat × AV)} {St : List AV} {S : SS} : ev c 34 11 [some (aR o), l1, l2, l3, l4] L2 St S = ev c 34 12 [some (aR o), l1, l2, l3, l4] L2 (aR o :: St) S := ev_go i34_11 rfl
theorem i34_12 : insAt 34 12 = some (.getfield 15, 3, (6, 1, 0, 0), 52) := rfl
theorem s34_12 {c : Nat → List AV → SS → Option Out} {l0 l1 l2 l3 l4 : Option AV} {j t : Nat} {L2 : List (Nat × AV)} {St : List AV} {S : SS} : ev c 34 12 [l0, l1, l2, l3, l4] L2 (aR (6, j, t) :: St) S = ev c 34 15 [l0, l1, l2, l3, l4] L2 (S.2.2.1 (6, j, t) 1 :: St) S := ev_go i34_12 rfl
theorem i34_15 : insAt 34 15 = some (.iload_n 3, 1, (0, 0, 0, 0), 0) := rfl
theorem s34_15 {c : Nat → List AV → SS → Option Out} {l0 l1 l2 l4 : Option AV} {x : Int32} {L2 : List (Nat × AV)} {St : List AV} {S : SS} : ev c 34 15 [l0, l1, l2, some (aI x), l4] L2 St S = ev c 34 16 [l0, l1, l2, some (aI x), l4] L2 (aI x :: St) S := ev_go i34_15 rfl
theorem i34_16 : insAt 34 16 = some (.invokestatic 47, 3, (31, 2, 1, 0), 111) := rfl
theorem s34_16 {c : Nat → List AV → SS → Option Out} {l0 l1 l2 l3 l4 : Option AV} {t0 : AV} {a0 : OId} {a1 : Int32} {L2 : List (Nat × AV)} {S : SS} : ev c 34 16 [l0, l1, l2, l3, l4] L2 [aI a1, aR a0, t0] S = ck (c 31 [aR a0, aI a1] S) (fun v S' => ev c 34 19 [l0, l1, l2, l3, l4] L2 (v.toList ++ [t0]) S') := ev_call i34_16 rfl
theorem i34_19 : insAt 34 19 = some (.iload_n 2, 1, (0, 0, 0, 0), 0) := rfl
theorem s34_19 {c : Nat → List AV → SS → Option Out} {l0 l1 l3 l4 : Option AV} {x : Int32} {L2 : List (Nat × AV)} {St : List AV} {S : SS} : ev c 34 19 [l0, l1, some (aI x), l3, l4] L2 St S = ev c 34 20 [l0, l1, some (aI x), l3, l4] L2 (aI x :: St) S := ev_go i34_19 rfl
theorem i34_20 : insAt 34 20 = some (.invokevirtual 51, 3, (25, 2, 3, 4), 112) := rfl
theorem s34_20 {c : Nat → List AV → SS → Option Out} {l0 l1 l2 l3 l4 : Option AV} {a0 : Int32} {a1 : Int32} {j t : Nat} {L2 : List (Nat × AV)} {S : SS} : ev c 34 20 [l0, l1, l2, l3, l4] L2 [aI a1, aI a0, aR (4, j, t)] S = ck (c 25 [aR (4, j, t), aI a0, aI a1] S) (fun v S' => ev c 34 23 [l0, l1, l2, l3, l4] L2 (v.toList ++ []) S') := ev_call i34_20 rfl
theorem i34_23 : insAt 34 23 = some (.istore 4, 2, (0, 0, 0, 0), 0) := rfl
theorem s34_23 {c : Nat → List AV → SS → Option Out} {l0 l1 l2 l3 l4 : Option AV} {x : Int32} {L2 : List (Nat × AV)} {St : List AV} {S : SS} : ev c 34 23 [l0, l1, l2, l3, l4] L2 (aI x :: St) S = ev c 34 25 [l0, l1, l2, l3, some (aI x)] (kil L2 4) St S := ev_go i34_23 rfl
theorem i34_25 : insAt 34 25 = some (.aload_n 0, 1, (0, 0, 0, 0), 0) := rfl
theorem s34_25 {c : Nat → List AV → SS → Option Out} {l1 l2 l3 l4 : Option AV} {o : OId} {L2 : List (Nat × AV)} {St : List AV} {S : SS} : ev c 34 25 [some (aR o), l1, l2, l3, l4] L2 St S = ev c 34 26 [some (aR o), l1, l2, l3, l4] L2 (aR o :: St) S := ev_go i34_25 rfl
theorem i34_26 : insAt 34 26 = some (.getfield 25, 3, (6, 4, 0, 0), 55) := rfl
theorem s34_26 {c : Nat → List AV → SS → Option Out} {l0 l1 l2 l3 l4 : Option AV} {j t : Nat} {L2 : List (Nat × AV)} {St : List AV} {S : SS} : ev c 34 26 [l0, l1, l2, l3, l4] L2 (aR (6, j, t) :: St) S = ev c 34 29 [l0, l1, l2, l3, l4] L2 (S.2.2.1 (6, j, t) 4 :: St) S := ev_go i34_26 rfl
theorem i34_29 : insAt 34 29 = some (.iload_n 3, 1, (0, 0, 0, 0), 0) := rfl
theorem s34_29 {c : Nat → List AV → SS → Option Out} {l0 l1 l2 l4 : Option AV} {x : Int32} {L2 : List (Nat × AV)} {St : List AV} {S : SS} : ev c 34 29 [l0, l1, l2, some (aI x), l4] L2 St S = ev c 34 30 [l0, l1, l2, some (aI x), l4] L2 (aI x :: St) S := ev_go i34_29 rfl
theorem i34_30 : insAt 34 30 = some (.aload_n 0, 1, (0, 0, 0, 0), 0) := rfl
theorem s34_30 {c : Nat → List AV → SS → Option Out} {l1 l2 l3 l4 : Option AV} {o : OId} {L2 : List (Nat × AV)} {St : List AV} {S : SS} : ev c 34 30 [some (aR o), l1, l2, l3, l4] L2 St S = ev c 34 31 [some (aR o), l1, l2, l3, l4] L2 (aR o :: St) S := ev_go i34_30 rfl
theorem i34_31 : insAt 34 31 = some (.getfield 9, 3, (6, 0, 0, 0), 51) := rfl
theorem s34_31 {c : Nat → List AV → SS → Option Out} {l0 l1 l2 l3 l4 : Option AV} {j t : Nat} {L2 : List (Nat × AV)} {St : List AV} {S : SS} : ev c 34 31 [l0, l1, l2, l3, l4] L2 (aR (6, j, t) :: St) S = ev c 34 34 [l0, l1, l2, l3, l4] L2 (aI (S.1 (6, j, t) 0) :: St) S := ev_go i34_31 rfl
theorem i34_34 : insAt 34 34 = some (.invokestatic 55, 3, (30, 2, 1, 0), 113) := rfl
theorem s34_34 {c : Nat → List AV → SS → Option Out} {l0 l1 l2 l3 l4 : Option AV} {t0 : AV} {a0 : Int32} {a1 : Int32} {L2 : List (Nat × AV)} {S : SS} : ev c 34 34 [l0, l1, l2, l3, l4] L2 [aI a1, aI a0, t0] S = ck (c 30 [aI a0, aI a1] S) (fun v S' => ev c 34 37 [l0, l1, l2, l3, l4] L2 (v.toList ++ [t0]) S') := ev_call i34_34 rfl
theorem i34_37 : insAt 34 37 = some (.iload 4, 2, (0, 0, 0, 0), 0) := rfl
theorem s34_37 {c : Nat → List AV → SS → Option Out} {l0 l1 l2 l3 : Option AV} {x : Int32} {L2 : List (Nat × AV)} {St : List AV} {S : SS} : ev c 34 37 [l0, l1, l2, l3, some (aI x)] L2 St S = ev c 34 39 [l0, l1, l2, l3, some (aI x)] L2 (aI x :: St) S := ev_go i34_37 rfl
theorem i34_39 : insAt 34 39 = some (.invokestatic 58, 3, (35, 3, 1, 0), 114) := rfl
theorem s34_39 {c : Nat → List AV → SS → Option Out} {l0 l1 l2 l3 l4 : Option AV} {a0 : OId} {a1 : Int32} {a2 : Int32} {L2 : List (Nat × AV)} {S : SS} : ev c 34 39 [l0, l1, l2, l3, l4] L2 [aI a2, aI a1, aR a0] S = ck (c 35 [aR a0, aI a1, aI a2] S) (fun v S' => ev c 34 42 [l0, l1, l2, l3, l4] L2 (v.toList ++ []) S') := ev_call i34_39 rfl
theorem i34_42 : insAt 34 42 = some (.aload_n 0, 1, (0, 0, 0, 0), 0) := rfl
theorem s34_42 {c : Nat → List AV → SS → Option Out} {l1 l2 l3 l4 : Option AV} {o : OId} {L2 : List (Nat × AV)} {St : List AV} {S : SS} : ev c 34 42 [some (aR o), l1, l2, l3, l4] L2 St S = ev c 34 43 [some (aR o), l1, l2, l3, l4] L2 (aR o :: St) S := ev_go i34_42 rfl
theorem i34_43 : insAt 34 43 = some (.getfield 25, 3, (6, 4, 0, 0), 55) := rfl
theorem s34_43 {c : Nat → List AV → SS → Option Out} {l0 l1 l2 l3 l4 : Option AV} {j t : Nat} {L2 : List (Nat × AV)} {St : List AV} {S : SS} : ev c 34 43 [l0, l1, l2, l3, l4] L2 (aR (6, j, t) :: St) S = ev c 34 46 [l0, l1, l2, l3, l4] L2 (S.2.2.1 (6, j, t) 4 :: St) S := ev_go i34_43 rfl
theorem i34_46 : insAt 34 46 = some (.aload_n 0, 1, (0, 0, 0, 0), 0) := rfl
theorem s34_46 {c : Nat → List AV → SS → Option Out} {l1 l2 l3 l4 : Option AV} {o : OId} {L2 : List (Nat × AV)} {St : List AV} {S : SS} : ev c 34 46 [some (aR o), l1, l2, l3, l4] L2 St S = ev c 34 47 [some (aR o), l1, l2, l3, l4] L2 (aR o :: St) S := ev_go i34_46 rfl
theorem i34_47 : insAt 34 47 = some (.getfield 9, 3, (6, 0, 0, 0), 51) := rfl
theorem s34_47 {c : Nat → List AV → SS → Option Out} {l0 l1 l2 l3 l4 : Option AV} {j t : Nat} {L2 : List (Nat × AV)} {St : List AV} {S : SS} : ev c 34 47 [l0, l1, l2, l3, l4] L2 (aR (6, j, t) :: St) S = ev c 34 50 [l0, l1, l2, l3, l4] L2 (aI (S.1 (6, j, t) 0) :: St) S := ev_go i34_47 rfl
theorem i34_50 : insAt 34 50 = some (.iload_n 3, 1, (0, 0, 0, 0), 0) := rfl
theorem s34_50 {c : Nat → List AV → SS → Option Out} {l0 l1 l2 l4 : Option AV} {x : Int32} {L2 : List (Nat × AV)} {St : List AV} {S : SS} : ev c 34 50 [l0, l1, l2, some (aI x), l4] L2 St S = ev c 34 51 [l0, l1, l2, some (aI x), l4] L2 (aI x :: St) S := ev_go i34_50 rfl
theorem i34_51 : insAt 34 51 = some (.invokestatic 55, 3, (30, 2, 1, 0), 113) := rfl
theorem s34_51 {c : Nat → List AV → SS → Option Out} {l0 l1 l2 l3 l4 : Option AV} {t0 : AV} {a0 : Int32} {a1 : Int32} {L2 : List (Nat × AV)} {S : SS} : ev c 34 51 [l0, l1, l2, l3, l4] L2 [aI a1, aI a0, t0] S = ck (c 30 [aI a0, aI a1] S) (fun v S' => ev c 34 54 [l0, l1, l2, l3, l4] L2 (v.toList ++ [t0]) S') := ev_call i34_51 rfl
theorem i34_54 : insAt 34 54 = some (.iload 4, 2, (0, 0, 0, 0), 0) := rfl
theorem s34_54 {c : Nat → List AV → SS → Option Out} {l0 l1 l2 l3 : Option AV} {x : Int32} {L2 : List (Nat × AV)} {St : List AV} {S : SS} : ev c 34 54 [l0, l1, l2, l3, some (aI x)] L2 St S = ev c 34 56 [l0, l1, l2, l3, some (aI x)] L2 (aI x :: St) S := ev_go i34_54 rfl
theorem i34_56 : insAt 34 56 = some (.invokestatic 58, 3, (35, 3, 1, 0), 114) := rfl
theorem s34_56 {c : Nat → List AV → SS → Option Out} {l0 l1 l2 l3 l4 : Option AV} {a0 : OId} {a1 : Int32} {a2 : Int32} {L2 : List (Nat × AV)} {S : SS} : ev c 34 56 [l0, l1, l2, l3, l4] L2 [aI a2, aI a1, aR a0] S = ck (c 35 [aR a0, aI a1, aI a2] S) (fun v S' => ev c 34 59 [l0, l1, l2, l3, l4] L2 (v.toList ++ []) S') := ev_call i34_56 rfl
theorem i34_59 : insAt 34 59 = some (.iinc 3 1, 3, (0, 0, 0, 0), 0) := rfl
theorem s34_59 {c : Nat → List AV → SS → Option Out} {l0 l1 l2 l4 : Option AV} {x : Int32} {L2 : List (Nat × AV)} {St : List AV} {S : SS} : ev c 34 59 [l0, l1, l2, some (aI x), l4] L2 St S = ev c 34 62 [l0, l1, l2, some (aI (x + 1)), l4] (kil L2 3) St S := ev_go i34_59 rfl
theorem i34_62 : insAt 34 62 = some (.goto (-60), 3, (0, 0, 0, 0), 0) := rfl
theorem s34_62 {c : Nat → List AV → SS → Option Out} {l0 l1 l2 l3 l4 : Option AV} {L2 : List (Nat × AV)} {St : List AV} {S : SS} : ev c 34 62 [l0, l1, l2, l3, l4] L2 St S = ev c 34 2 [l0, l1, l2, l3, l4] L2 St S := ev_go i34_62 rfl
theorem i34_65 : insAt 34 65 = some (.aload_n 0, 1, (0, 0, 0, 0), 0) := rfl
theorem s34_65 {c : Nat → List AV → SS → Option Out} {l1 l2 l3 l4 : Option AV} {o : OId} {L2 : List (Nat × AV)} {St : List AV} {S : SS} : ev c 34 65 [some (aR o), l1, l2, l3, l4] L2 St S = ev c 34 66 [some (aR o), l1, l2, l3, l4] L2 (aR o :: St) S := ev_go i34_65 rfl
theorem i34_66 : insAt 34 66 = some (.getfield 15, 3, (6, 1, 0, 0), 52) := rfl
theorem s34_66 {c : Nat → List AV → SS → Option Out} {l0 l1 l2 l3 l4 : Option AV} {j t : Nat} {L2 : List (Nat × AV)} {St : List AV} {S : SS} : ev c 34 66 [l0, l1, l2, l3, l4] L2 (aR (6, j, t) :: St) S = ev c 34 69 [l0, l1, l2, l3, l4] L2 (S.2.2.1 (6, j, t) 1 :: St) S := ev_go i34_66 rfl
theorem i34_69 : insAt 34 69 = some (.aload_n 0, 1, (0, 0, 0, 0), 0) := rfl
theorem s34_69 {c : Nat → List AV → SS → Option Out} {l1 l2 l3 l4 : Option AV} {o : OId} {L2 : List (Nat × AV)} {St : List AV} {S : SS} : ev c 34 69 [some (aR o), l1, l2, l3, l4] L2 St S = ev c 34 70 [some (aR o), l1, l2, l3, l4] L2 (aR o :: St) S := ev_go i34_69 rfl
theorem i34_70 : insAt 34 70 = some (.getfield 9, 3, (6, 0, 0, 0), 51) := rfl
theorem s34_70 {c : Nat → List AV → SS → Option Out} {l0 l1 l2 l3 l4 : Option AV} {j t : Nat} {L2 : List (Nat × AV)} {St : List AV} {S : SS} : ev c 34 70 [l0, l1, l2, l3, l4] L2 (aR (6, j, t) :: St) S = ev c 34 73 [l0, l1, l2, l3, l4] L2 (aI (S.1 (6, j, t) 0) :: St) S := ev_go i34_70 rfl
theorem i34_73 : insAt 34 73 = some (.iload_n 2, 1, (0, 0, 0, 0), 0) := rfl
theorem s34_73 {c : Nat → List AV → SS → Option Out} {l0 l1 l3 l4 : Option AV} {x : Int32} {L2 : List (Nat × AV)} {St : List AV} {S : SS} : ev c 34 73 [l0, l1, some (aI x), l3, l4] L2 St S = ev c 34 74 [l0, l1, some (aI x), l3, l4] L2 (aI x :: St) S := ev_go i34_73 rfl
theorem i34_74 : insAt 34 74 = some (.invokestatic 58, 3, (35, 3, 1, 0), 114) := rfl
theorem s34_74 {c : Nat → List AV → SS → Option Out} {l0 l1 l2 l3 l4 : Option AV} {a0 : OId} {a1 : Int32} {a2 : Int32} {L2 : List (Nat × AV)} {S : SS} : ev c 34 74 [l0, l1, l2, l3, l4] L2 [aI a2, aI a1, aR a0] S = ck (c 35 [aR a0, aI a1, aI a2] S) (fun v S' => ev c 34 77 [l0, l1, l2, l3, l4] L2 (v.toList ++ []) S') := ev_call i34_74 rfl
theorem i34_77 : insAt 34 77 = some (.aload_n 0, 1, (0, 0, 0, 0), 0) := rfl
theorem s34_77 {c : Nat → List AV → SS → Option Out} {l1 l2 l3 l4 : Option AV} {o : OId} {L2 : List (Nat × AV)} {St : List AV} {S : SS} : ev c 34 77 [some (aR o), l1, l2, l3, l4] L2 St S = ev c 34 78 [some (aR o), l1, l2, l3, l4] L2 (aR o :: St) S := ev_go i34_77 rfl
theorem i34_78 : insAt 34 78 = some (.getfield 19, 3, (6, 2, 0, 0), 53) := rfl
theorem s34_78 {c : Nat → List AV → SS → Option Out} {l0 l1 l2 l3 l4 : Option AV} {j t : Nat} {L2 : List (Nat × AV)} {St : List AV} {S : SS} : ev c 34 78 [l0, l1, l2, l3, l4] L2 (aR (6, j, t) :: St) S = ev c 34 81 [l0, l1, l2, l3, l4] L2 (S.2.2.1 (6, j, t) 2 :: St) S := ev_go i34_78 rfl
theorem i34_81 : insAt 34 81 = some (.aload_n 0, 1, (0, 0, 0, 0), 0) := rfl
theorem s34_81 {c : Nat → List AV → SS → Option Out} {l1 l2 l3 l4 : Option AV} {o : OId} {L2 : List (Nat × AV)} {St : List AV} {S : SS} : ev c 34 81 [some (aR o), l1, l2, l3, l4] L2 St S = ev c 34 82 [some (aR o), l1, l2, l3, l4] L2 (aR o :: St) S := ev_go i34_81 rfl
theorem i34_82 : insAt 34 82 = some (.getfield 9, 3, (6, 0, 0, 0), 51) := rfl
theorem s34_82 {c : Nat → List AV → SS → Option Out} {l0 l1 l2 l3 l4 : Option AV} {j t : Nat} {L2 : List (Nat × AV)} {St : List AV} {S : SS} : ev c 34 82 [l0, l1, l2, l3, l4] L2 (aR (6, j, t) :: St) S = ev c 34 85 [l0, l1, l2, l3, l4] L2 (aI (S.1 (6, j, t) 0) :: St) S := ev_go i34_82 rfl
theorem i34_85 : insAt 34 85 = some (.aload_n 1, 1, (0, 0, 0, 0), 0) := rfl
theorem s34_85 {c : Nat → List AV → SS → Option Out} {l0 l2 l3 l4 : Option AV} {o : OId} {L2 : List (Nat × AV)} {St : List AV} {S : SS} : ev c 34 85 [l0, some (aR o), l2, l3, l4] L2 St S = ev c 34 86 [l0, some (aR o), l2, l3, l4] L2 (aR o :: St) S := ev_go i34_85 rfl
theorem i34_86 : insAt 34 86 = some (.iload_n 2, 1, (0, 0, 0, 0), 0) := rfl
theorem s34_86 {c : Nat → List AV → SS → Option Out} {l0 l1 l3 l4 : Option AV} {x : Int32} {L2 : List (Nat × AV)} {St : List AV} {S : SS} : ev c 34 86 [l0, l1, some (aI x), l3, l4] L2 St S = ev c 34 87 [l0, l1, some (aI x), l3, l4] L2 (aI x :: St) S := ev_go i34_86 rfl
theorem i34_87 : insAt 34 87 = some (.invokevirtual 33, 3, (17, 1, 3, 4), 108) := rfl
theorem s34_87 {c : Nat → List AV → SS → Option Out} {l0 l1 l2 l3 l4 : Option AV} {t0 t1 : AV} {a0 : Int32} {j t : Nat} {L2 : List (Nat × AV)} {S : SS} : ev c 34 87 [l0, l1, l2, l3, l4] L2 [aI a0, aR (4, j, t), t0, t1] S = ck (c 17 [aR (4, j, t), aI a0] S) (fun v S' => ev c 34 90 [l0, l1, l2, l3, l4] L2 (v.toList ++ [t0, t1]) S') := ev_call i34_87 rfl
theorem i34_90 : insAt 34 90 = some (.getfield 62, 3, (10, 0, 1, 0), 115) := rfl
theorem s34_90 {c : Nat → List AV → SS → Option Out} {l0 l1 l2 l3 l4 : Option AV} {j t : Nat} {L2 : List (Nat × AV)} {St : List AV} {S : SS} : ev c 34 90 [l0, l1, l2, l3, l4] L2 (aR (10, j, t) :: St) S = ev c 34 93 [l0, l1, l2, l3, l4] L2 (aI (S.1 (10, j, t) 0) :: St) S := ev_go i34_90 rfl
theorem i34_93 : insAt 34 93 = some (.invokestatic 58, 3, (35, 3, 1, 0), 114) := rfl
theorem s34_93 {c : Nat → List AV → SS → Option Out} {l0 l1 l2 l3 l4 : Option AV} {a0 : OId} {a1 : Int32} {a2 : Int32} {L2 : List (Nat × AV)} {S : SS} : ev c 34 93 [l0, l1, l2, l3, l4] L2 [aI a2, aI a1, aR a0] S = ck (c 35 [aR a0, aI a1, aI a2] S) (fun v S' => ev c 34 96 [l0, l1, l2, l3, l4] L2 (v.toList ++ []) S') := ev_call i34_93 rfl
theorem i34_96 : insAt 34 96 = some (.aload_n 0, 1, (0, 0, 0, 0), 0) := rfl
theorem s34_96 {c : Nat → List AV → SS → Option Out} {l1 l2 l3 l4 : Option AV} {o : OId} {L2 : List (Nat × AV)} {St : List AV} {S : SS} : ev c 34 96 [some (aR o), l1, l2, l3, l4] L2 St S = ev c 34 97 [some (aR o), l1, l2, l3, l4] L2 (aR o :: St) S := ev_go i34_96 rfl
theorem i34_97 : insAt 34 97 = some (.getfield 22, 3, (6, 3, 0, 0), 54) := rfl
theorem s34_97 {c : Nat → List AV → SS → Option Out} {l0 l1 l2 l3 l4 : Option AV} {j t : Nat} {L2 : List (Nat × AV)} {St : List AV} {S : SS} : ev c 34 97 [l0, l1, l2, l3, l4] L2 (aR (6, j, t) :: St) S = ev c 34 100 [l0, l1, l2, l3, l4] L2 (S.2.2.1 (6, j, t) 3 :: St) S := ev_go i34_97 rfl
theorem i34_100 : insAt 34 100 = some (.aload_n 0, 1, (0, 0, 0, 0), 0) := rfl
theorem s34_100 {c : Nat → List AV → SS → Option Out} {l1 l2 l3 l4 : Option AV} {o : OId} {L2 : List (Nat × AV)} {St : List AV} {S : SS} : ev c 34 100 [some (aR o), l1, l2, l3, l4] L2 St S = ev c 34 101 [some (aR o), l1, l2, l3, l4] L2 (aR o :: St) S := ev_go i34_100 rfl
theorem i34_101 : insAt 34 101 = some (.getfield 9, 3, (6, 0, 0, 0), 51) := rfl
theorem s34_101 {c : Nat → List AV → SS → Option Out} {l0 l1 l2 l3 l4 : Option AV} {j t : Nat} {L2 : List (Nat × AV)} {St : List AV} {S : SS} : ev c 34 101 [l0, l1, l2, l3, l4] L2 (aR (6, j, t) :: St) S = ev c 34 104 [l0, l1, l2, l3, l4] L2 (aI (S.1 (6, j, t) 0) :: St) S := ev_go i34_101 rfl
theorem i34_104 : insAt 34 104 = some (.aload_n 1, 1, (0, 0, 0, 0), 0) := rfl
theorem s34_104 {c : Nat → List AV → SS → Option Out} {l0 l2 l3 l4 : Option AV} {o : OId} {L2 : List (Nat × AV)} {St : List AV} {S : SS} : ev c 34 104 [l0, some (aR o), l2, l3, l4] L2 St S = ev c 34 105 [l0, some (aR o), l2, l3, l4] L2 (aR o :: St) S := ev_go i34_104 rfl
theorem i34_105 : insAt 34 105 = some (.iload_n 2, 1, (0, 0, 0, 0), 0) := rfl
theorem s34_105 {c : Nat → List AV → SS → Option Out} {l0 l1 l3 l4 : Option AV} {x : Int32} {L2 : List (Nat × AV)} {St : List AV} {S : SS} : ev c 34 105 [l0, l1, some (aI x), l3, l4] L2 St S = ev c 34 106 [l0, l1, some (aI x), l3, l4] L2 (aI x :: St) S := ev_go i34_105 rfl
theorem i34_106 : insAt 34 106 = some (.invokevirtual 33, 3, (17, 1, 3, 4), 108) := rfl
theorem s34_106 {c : Nat → List AV → SS → Option Out} {l0 l1 l2 l3 l4 : Option AV} {t0 t1 : AV} {a0 : Int32} {j t : Nat} {L2 : List (Nat × AV)} {S : SS} : ev c 34 106 [l0, l1, l2, l3, l4] L2 [aI a0, aR (4, j, t), t0, t1] S = ck (c 17 [aR (4, j, t), aI a0] S) (fun v S' => ev c 34 109 [l0, l1, l2, l3, l4] L2 (v.toList ++ [t0, t1]) S') := ev_call i34_106 rfl
theorem i34_109 : insAt 34 109 = some (.getfield 65, 3, (10, 3, 1, 0), 116) := rfl
theorem s34_109 {c : Nat → List AV → SS → Option Out} {l0 l1 l2 l3 l4 : Option AV} {j t : Nat} {L2 : List (Nat × AV)} {St : List AV} {S : SS} : ev c 34 109 [l0, l1, l2, l3, l4] L2 (aR (10, j, t) :: St) S = ev c 34 112 [l0, l1, l2, l3, l4] L2 (aI (S.1 (10, j, t) 3) :: St) S := ev_go i34_109 rfl
theorem i34_112 : insAt 34 112 = some (.invokestatic 58, 3, (35, 3, 1, 0), 114) := rfl
theorem s34_112 {c : Nat → List AV → SS → Option Out} {l0 l1 l2 l3 l4 : Option AV} {a0 : OId} {a1 : Int32} {a2 : Int32} {L2 : List (Nat × AV)} {S : SS} : ev c 34 112 [l0, l1, l2, l3, l4] L2 [aI a2, aI a1, aR a0] S = ck (c 35 [aR a0, aI a1, aI a2] S) (fun v S' => ev c 34 115 [l0, l1, l2, l3, l4] L2 (v.toList ++ []) S') := ev_call i34_112 rfl
theorem i34_115 : insAt 34 115 = some (.aload_n 0, 1, (0, 0, 0, 0), 0) := rfl
theorem s34_115 {c : Nat → List AV → SS → Option Out} {l1 l2 l3 l4 : Option AV} {o : OId} {L2 : List (Nat × AV)} {St : List AV} {S : SS} : ev c 34 115 [some (aR o), l1, l2, l3, l4] L2 St S = ev c 34 116 [some (aR o), l1, l2, l3, l4] L2 (aR o :: St) S := ev_go i34_115 rfl
theorem i34_116 : insAt 34 116 = some (.dup, 1, (0, 0, 0, 0), 0) := rfl
theorem s34_116 {c : Nat → List AV → SS → Option Out} {l0 l1 l2 l3 l4 : Option AV} {x : OId} {L2 : List (Nat × AV)} {St : List AV} {S : SS} : ev c 34 116 [l0, l1, l2, l3, l4] L2 (aR x :: St) S = ev c 34 117 [l0, l1, l2, l3, l4] L2 (aR x :: aR x :: St) S := ev_go i34_116 rfl
theorem i34_117 : insAt 34 117 = some (.getfield 9, 3, (6, 0, 0, 0), 51) := rfl
theorem s34_117 {c : Nat → List AV → SS → Option Out} {l0 l1 l2 l3 l4 : Option AV} {j t : Nat} {L2 : List (Nat × AV)} {St : List AV} {S : SS} : ev c 34 117 [l0, l1, l2, l3, l4] L2 (aR (6, j, t) :: St) S = ev c 34 120 [l0, l1, l2, l3, l4] L2 (aI (S.1 (6, j, t) 0) :: St) S := ev_go i34_117 rfl
theorem i34_120 : insAt 34 120 = some (.iconst 1, 1, (0, 0, 0, 0), 0) := rfl
theorem s34_120 {c : Nat → List AV → SS → Option Out} {l0 l1 l2 l3 l4 : Option AV} {L2 : List (Nat × AV)} {St : List AV} {S : SS} : ev c 34 120 [l0, l1, l2, l3, l4] L2 St S = ev c 34 121 [l0, l1, l2, l3, l4] L2 (aI 1 :: St) S := ev_go i34_120 rfl
theorem i34_121 : insAt 34 121 = some (.iadd, 1, (0, 0, 0, 0), 0) := rfl
theorem s34_121 {c : Nat → List AV → SS → Option Out} {l0 l1 l2 l3 l4 : Option AV} {x y : Int32} {L2 : List (Nat × AV)} {St : List AV} {S : SS} : ev c 34 121 [l0, l1, l2, l3, l4] L2 (aI y :: aI x :: St) S = ev c 34 122 [l0, l1, l2, l3, l4] L2 (aI (x + y) :: St) S := ev_go i34_121 rfl
theorem i34_122 : insAt 34 122 = some (.putfield 9, 3, (6, 0, 0, 0), 51) := rfl
theorem s34_122 {c : Nat → List AV → SS → Option Out} {l0 l1 l2 l3 l4 : Option AV} {j t : Nat} {x : Int32} {L2 : List (Nat × AV)} {St : List AV} {S : SS} : ev c 34 122 [l0, l1, l2, l3, l4] L2 (aI x :: aR (6, j, t) :: St) S = ev c 34 125 [l0, l1, l2, l3, l4] L2 St (setI S.1 (6, j, t) 0 x, S.2) := ev_go i34_122 rfl
theorem i34_125 : insAt 34 125 = some (.return_, 1, (0, 0, 0, 0), 0) := rfl
theorem s34_125 {c : Nat → List AV → SS → Option Out} {l0 l1 l2 l3 l4 : Option AV} {L2 : List (Nat × AV)} {S : SS} : ev c 34 125 [l0, l1, l2, l3, l4] L2 [] S = some (.inl none, S) := ev_end i34_125 rfl
theorem m34 {d : Nat} {o : OId} {a0 : OId} {a1 : Int32} {S : SS} : evm (d + 1) 34 [aR o, aR a0, aI a1] S = ev (evm d) 34 0 [some (aR o), some (aR a0), some (aI a1), none, none] [] [] S := evm_s (n := 5) rfl (Nat.le_of_ble_eq_true rfl) rfl rfl
/-! FrequencyOffice$Spans.leastByNumbers()I -/
theorem i36_0 : insAt 36 0 = some (.aload_n 0, 1, (0, 0, 0, 0), 0) := rfl
theorem s36_0 {c : Nat → List AV → SS → Option Out} {l1 : Option AV} {o : OId} {L2 : List (Nat × AV)} {St : List AV} {S : SS} : ev c 36 0 [some (aR o), l1] L2 St S = ev c 36 1 [some (aR o), l1] L2 (aR o :: St) S := ev_go i36_0 rfl
theorem i36_1 : insAt 36 1 = some (.invokevirtual 23, 3, (37, 0, 2, 9), 117) := rfl
theorem s36_1 {c : Nat → List AV → SS → Option Out} {l0 l1 : Option AV} {j t : Nat} {L2 : List (Nat × AV)} {S : SS} : ev c 36 1 [l0, l1] L2 [aR (9, j, t)] S = ck (c 37 [aR (9, j, t)] S) (fun v S' => ev c 36 4 [l0, l1] L2 (v.toList ++ []) S') := ev_call i36_1 rfl
theorem i36_4 : insAt 36 4 = some (.iconst 0, 1, (0, 0, 0, 0), 0) := rfl
theorem s36_4 {c : Nat → List AV → SS → Option Out} {l0 l1 : Option AV} {L2 : List (Nat × AV)} {St : List AV} {S : SS} : ev c 36 4 [l0, l1] L2 St S = ev c 36 5 [l0, l1] L2 (aI 0 :: St) S := ev_go i36_4 rfl
theorem i36_5 : insAt 36 5 = some (.istore_n 1, 1, (0, 0, 0, 0), 0) := rfl
theorem s36_5 {c : Nat → List AV → SS → Option Out} {l0 l1 : Option AV} {x : Int32} {L2 : List (Nat × AV)} {St : List AV} {S : SS} : ev c 36 5 [l0, l1] L2 (aI x :: St) S = ev c 36 6 [l0, some (aI x)] (kil L2 1) St S := ev_go i36_5 rfl
theorem i36_6 : insAt 36 6 = some (.iload_n 1, 1, (0, 0, 0, 0), 0) := rfl
theorem s36_6 {c : Nat → List AV → SS → Option Out} {l0 : Option AV} {x : Int32} {L2 : List (Nat × AV)} {St : List AV} {S : SS} : ev c 36 6 [l0, some (aI x)] L2 St S = ev c 36 7 [l0, some (aI x)] L2 (aI x :: St) S := ev_go i36_6 rfl
theorem i36_7 : insAt 36 7 = some (.bipush 31, 2, (0, 0, 0, 0), 0) := rfl
theorem s36_7 {c : Nat → List AV → SS → Option Out} {l0 l1 : Option AV} {L2 : List (Nat × AV)} {St : List AV} {S : SS} : ev c 36 7 [l0, l1] L2 St S = ev c 36 9 [l0, l1] L2 (aI 31 :: St) S := ev_go i36_7 rfl
theorem i36_9 : insAt 36 9 = some (.if_icmp .ge 21, 3, (0, 0, 0, 0), 0) := rfl
theorem s36_9 {c : Nat → List AV → SS → Option Out} {l0 l1 : Option AV} {x y : Int32} {L2 : List (Nat × AV)} {St : List AV} {S : SS} : ev c 36 9 [l0, l1] L2 (aI y :: aI x :: St) S = if y ≤ x then ev c 36 30 [l0, l1] L2 St S else ev c 36 12 [l0, l1] L2 St S := ev_br i36_9 rfl
theorem i36_12 : insAt 36 12 = some (.aload_n 0, 1, (0, 0, 0, 0), 0) := rfl
theorem s36_12 {c : Nat → List AV → SS → Option Out} {l1 : Option AV} {o : OId} {L2 : List (Nat × AV)} {St : List AV} {S : SS} : ev c 36 12 [some (aR o), l1] L2 St S = ev c 36 13 [some (aR o), l1] L2 (aR o :: St) S := ev_go i36_12 rfl
theorem i36_13 : insAt 36 13 = some (.iconst 0, 1, (0, 0, 0, 0), 0) := rfl
theorem s36_13 {c : Nat → List AV → SS → Option Out} {l0 l1 : Option AV} {L2 : List (Nat × AV)} {St : List AV} {S : SS} : ev c 36 13 [l0, l1] L2 St S = ev c 36 14 [l0, l1] L2 (aI 0 :: St) S := ev_go i36_13 rfl
theorem i36_14 : insAt 36 14 = some (.iconst 0, 1, (0, 0, 0, 0), 0) := rfl
theorem s36_14 {c : Nat → List AV → SS → Option Out} {l0 l1 : Option AV} {L2 : List (Nat × AV)} {St : List AV} {S : SS} : ev c 36 14 [l0, l1] L2 St S = ev c 36 15 [l0, l1] L2 (aI 0 :: St) S := ev_go i36_14 rfl
theorem i36_15 : insAt 36 15 = some (.iload_n 1, 1, (0, 0, 0, 0), 0) := rfl
theorem s36_15 {c : Nat → List AV → SS → Option Out} {l0 : Option AV} {x : Int32} {L2 : List (Nat × AV)} {St : List AV} {S : SS} : ev c 36 15 [l0, some (aI x)] L2 St S = ev c 36 16 [l0, some (aI x)] L2 (aI x :: St) S := ev_go i36_15 rfl
theorem i36_16 : insAt 36 16 = some (.invokestatic 26, 3, (40, 4, 0, 0), 118) := rfl
theorem s36_16 {c : Nat → List AV → SS → Option Out} {l0 l1 : Option AV} {a0 : OId} {a1 : Int32} {a2 : Int32} {a3 : Int32} {L2 : List (Nat × AV)} {S : SS} : ev c 36 16 [l0, l1] L2 [aI a3, aI a2, aI a1, aR a0] S = ck (c 40 [aR a0, aI a1, aI a2, aI a3] S) (fun v S' => ev c 36 19 [l0, l1] L2 (v.toList ++ []) S') := ev_call i36_16 rfl
theorem i36_19 : insAt 36 19 = some (.ifCond .eq 5, 3, (0, 0, 0, 0), 0) := rfl
theorem s36_19 {c : Nat → List AV → SS → Option Out} {l0 l1 : Option AV} {x : Int32} {L2 : List (Nat × AV)} {St : List AV} {S : SS} : ev c 36 19 [l0, l1] L2 (aI x :: St) S = if x = 0 then ev c 36 24 [l0, l1] L2 St S else ev c 36 22 [l0, l1] L2 St S := ev_br i36_19 rfl
theorem i36_22 : insAt 36 22 = some (.iload_n 1, 1, (0, 0, 0, 0), 0) := rfl
theorem s36_22 {c : Nat → List AV → SS → Option Out} {l0 : Option AV} {x : Int32} {L2 : List (Nat × AV)} {St : List AV} {S : SS} : ev c 36 22 [l0, some (aI x)] L2 St S = ev c 36 23 [l0, some (aI x)] L2 (aI x :: St) S := ev_go i36_22 rfl
theorem i36_23 : insAt 36 23 = some (.ireturn, 1, (0, 0, 0, 0), 0) := rfl
theorem s36_23 {c : Nat → List AV → SS → Option Out} {l0 l1 : Option AV} {x : Int32} {L2 : List (Nat × AV)} {S : SS} : ev c 36 23 [l0, l1] L2 [aI x] S = some (.inl (some (aI x)), S) := ev_end i36_23 rfl
theorem i36_24 : insAt 36 24 = some (.iinc 1 1, 3, (0, 0, 0, 0), 0) := rfl
theorem s36_24 {c : Nat → List AV → SS → Option Out} {l0 : Option AV} {x : Int32} {L2 : List (Nat × AV)} {St : List AV} {S : SS} : ev c 36 24 [l0, some (aI x)] L2 St S = ev c 36 27 [l0, some (aI (x + 1))] (kil L2 1) St S := ev_go i36_24 rfl
theorem i36_27 : insAt 36 27 = some (.goto (-21), 3, (0, 0, 0, 0), 0) := rfl
theorem s36_27 {c : Nat → List AV → SS → Option Out} {l0 l1 : Option AV} {L2 : List (Nat × AV)} {St : List AV} {S : SS} : ev c 36 27 [l0, l1] L2 St S = ev c 36 6 [l0, l1] L2 St S := ev_go i36_27 rfl
theorem i36_30 : insAt 36 30 = some (.bipush 31, 2, (0, 0, 0, 0), 0) := rfl
theorem s36_30 {c : Nat → List AV → SS → Option Out} {l0 l1 : Option AV} {L2 : List (Nat × AV)} {St : List AV} {S : SS} : ev c 36 30 [l0, l1] L2 St S = ev c 36 32 [l0, l1] L2 (aI 31 :: St) S := ev_go i36_30 rfl
theorem i36_32 : insAt 36 32 = some (.ireturn, 1, (0, 0, 0, 0), 0) := rfl
theorem s36_32 {c : Nat → List AV → SS → Option Out} {l0 l1 : Option AV} {x : Int32} {L2 : List (Nat × AV)} {S : SS} : ev c 36 32 [l0, l1] L2 [aI x] S = some (.inl (some (aI x)), S) := ev_end i36_32 rfl
theorem m36 {d : Nat} {o : OId} {S : SS} : evm (d + 1) 36 [aR o] S = ev (evm d) 36 0 [some (aR o), none] [] [] S := evm_s (n := 2) rfl (Nat.le_of_ble_eq_true rfl) rfl rfl
/-! FrequencyOffice$Spans.sortBySeparations()V -/
theorem i37_0 : insAt 37 0 = some (.iconst 0, 1, (0, 0, 0, 0), 0) := rfl
theorem s37_0 {c : Nat → List AV → SS → Option Out} {l0 l1 l2 : Option AV} {L2 : List (Nat × AV)} {St : List AV} {S : SS} : ev c 37 0 [l0, l1, l2] L2 St S = ev c 37 1 [l0, l1, l2] L2 (aI 0 :: St) S := ev_go i37_0 rfl
theorem i37_1 : insAt 37 1 = some (.istore_n 1, 1, (0, 0, 0, 0), 0) := rfl
theorem s37_1 {c : Nat → List AV → SS → Option Out} {l0 l1 l2 : Option AV} {x : Int32} {L2 : List (Nat × AV)} {St : List AV} {S : SS} : ev c 37 1 [l0, l1, l2] L2 (aI x :: St) S = ev c 37 2 [l0, some (aI x), l2] (kil L2 1) St S := ev_go i37_1 rfl
theorem i37_2 : insAt 37 2 = some (.iload_n 1, 1, (0, 0, 0, 0), 0) := rfl
theorem s37_2 {c : Nat → List AV → SS → Option Out} {l0 l2 : Option AV} {x : Int32} {L2 : List (Nat × AV)} {St : List AV} {S : SS} : ev c 37 2 [l0, some (aI x), l2] L2 St S = ev c 37 3 [l0, some (aI x), l2] L2 (aI x :: St) S := ev_go i37_2 rfl
theorem i37_3 : insAt 37 3 = some (.aload_n 0, 1, (0, 0, 0, 0), 0) := rfl
theorem s37_3 {c : Nat → List AV → SS → Option Out} {l1 l2 : Option AV} {o : OId} {L2 : List (Nat × AV)} {St : List AV} {S : SS} : ev c 37 3 [some (aR o), l1, l2] L2 St S = ev c 37 4 [some (aR o), l1, l2] L2 (aR o :: St) S := ev_go i37_3 rfl
theorem i37_4 : insAt 37 4 = some (.getfield 19, 3, (9, 0, 0, 0), 69) := rfl
theorem s37_4 {c : Nat → List AV → SS → Option Out} {l0 l1 l2 : Option AV} {j t : Nat} {L2 : List (Nat × AV)} {St : List AV} {S : SS} : ev c 37 4 [l0, l1, l2] L2 (aR (9, j, t) :: St) S = ev c 37 7 [l0, l1, l2] L2 (S.2.2.1 (9, j, t) 0 :: St) S := ev_go i37_4 rfl
theorem i37_7 : insAt 37 7 = some (.getfield 30, 3, (6, 0, 1, 0), 119) := rfl
theorem s37_7 {c : Nat → List AV → SS → Option Out} {l0 l1 l2 : Option AV} {j t : Nat} {L2 : List (Nat × AV)} {St : List AV} {S : SS} : ev c 37 7 [l0, l1, l2] L2 (aR (6, j, t) :: St) S = ev c 37 10 [l0, l1, l2] L2 (aI (S.1 (6, j, t) 0) :: St) S := ev_go i37_7 rfl
theorem i37_10 : insAt 37 10 = some (.if_icmp .ge 76, 3, (0, 0, 0, 0), 0) := rfl
theorem s37_10 {c : Nat → List AV → SS → Option Out} {l0 l1 l2 : Option AV} {x y : Int32} {L2 : List (Nat × AV)} {St : List AV} {S : SS} : ev c 37 10 [l0, l1, l2] L2 (aI y :: aI x :: St) S = if y ≤ x then ev c 37 86 [l0, l1, l2] L2 St S else ev c 37 13 [l0, l1, l2] L2 St S := ev_br i37_10 rfl
theorem i37_13 : insAt 37 13 = some (.iload_n 1, 1, (0, 0, 0, 0), 0) := rfl
theorem s37_13 {c : Nat → List AV → SS → Option Out} {l0 l2 : Option AV} {x : Int32} {L2 : List (Nat × AV)} {St : List AV} {S : SS} : ev c 37 13 [l0, some (aI x), l2] L2 St S = ev c 37 14 [l0, some (aI x), l2] L2 (aI x :: St) S := ev_go i37_13 rfl
theorem i37_14 : insAt 37 14 = some (.istore_n 2, 1, (0, 0, 0, 0), 0) := rfl
theorem s37_14 {c : Nat → List AV → SS → Option Out} {l0 l1 l2 : Option AV} {x : Int32} {L2 : List (Nat × AV)} {St : List AV} {S : SS} : ev c 37 14 [l0, l1, l2] L2 (aI x :: St) S = ev c 37 15 [l0, l1, some (aI x)] (kil L2 2) St S := ev_go i37_14 rfl
theorem i37_15 : insAt 37 15 = some (.iload_n 2, 1, (0, 0, 0, 0), 0) := rfl
theorem s37_15 {c : Nat → List AV → SS → Option Out} {l0 l1 : Option AV} {x : Int32} {L2 : List (Nat × AV)} {St : List AV} {S : SS} : ev c 37 15 [l0, l1, some (aI x)] L2 St S = ev c 37 16 [l0, l1, some (aI x)] L2 (aI x :: St) S := ev_go i37_15 rfl
theorem i37_16 : insAt 37 16 = some (.ifCond .le 55, 3, (0, 0, 0, 0), 0) := rfl
theorem s37_16 {c : Nat → List AV → SS → Option Out} {l0 l1 l2 : Option AV} {x : Int32} {L2 : List (Nat × AV)} {St : List AV} {S : SS} : ev c 37 16 [l0, l1, l2] L2 (aI x :: St) S = if x ≤ 0 then ev c 37 71 [l0, l1, l2] L2 St S else ev c 37 19 [l0, l1, l2] L2 St S := ev_br i37_16 rfl
theorem i37_19 : insAt 37 19 = some (.aload_n 0, 1, (0, 0, 0, 0), 0) := rfl
theorem s37_19 {c : Nat → List AV → SS → Option Out} {l1 l2 : Option AV} {o : OId} {L2 : List (Nat × AV)} {St : List AV} {S : SS} : ev c 37 19 [some (aR o), l1, l2] L2 St S = ev c 37 20 [some (aR o), l1, l2] L2 (aR o :: St) S := ev_go i37_19 rfl
theorem i37_20 : insAt 37 20 = some (.getfield 19, 3, (9, 0, 0, 0), 69) := rfl
theorem s37_20 {c : Nat → List AV → SS → Option Out} {l0 l1 l2 : Option AV} {j t : Nat} {L2 : List (Nat × AV)} {St : List AV} {S : SS} : ev c 37 20 [l0, l1, l2] L2 (aR (9, j, t) :: St) S = ev c 37 23 [l0, l1, l2] L2 (S.2.2.1 (9, j, t) 0 :: St) S := ev_go i37_20 rfl
theorem i37_23 : insAt 37 23 = some (.aload_n 0, 1, (0, 0, 0, 0), 0) := rfl
theorem s37_23 {c : Nat → List AV → SS → Option Out} {l1 l2 : Option AV} {o : OId} {L2 : List (Nat × AV)} {St : List AV} {S : SS} : ev c 37 23 [some (aR o), l1, l2] L2 St S = ev c 37 24 [some (aR o), l1, l2] L2 (aR o :: St) S := ev_go i37_23 rfl
theorem i37_24 : insAt 37 24 = some (.getfield 9, 3, (9, 1, 0, 0), 67) := rfl
theorem s37_24 {c : Nat → List AV → SS → Option Out} {l0 l1 l2 : Option AV} {j t : Nat} {L2 : List (Nat × AV)} {St : List AV} {S : SS} : ev c 37 24 [l0, l1, l2] L2 (aR (9, j, t) :: St) S = ev c 37 27 [l0, l1, l2] L2 (S.2.2.1 (9, j, t) 1 :: St) S := ev_go i37_24 rfl
theorem i37_27 : insAt 37 27 = some (.iload_n 2, 1, (0, 0, 0, 0), 0) := rfl
theorem s37_27 {c : Nat → List AV → SS → Option Out} {l0 l1 : Option AV} {x : Int32} {L2 : List (Nat × AV)} {St : List AV} {S : SS} : ev c 37 27 [l0, l1, some (aI x)] L2 St S = ev c 37 28 [l0, l1, some (aI x)] L2 (aI x :: St) S := ev_go i37_27 rfl
theorem i37_28 : insAt 37 28 = some (.iconst 1, 1, (0, 0, 0, 0), 0) := rfl
theorem s37_28 {c : Nat → List AV → SS → Option Out} {l0 l1 l2 : Option AV} {L2 : List (Nat × AV)} {St : List AV} {S : SS} : ev c 37 28 [l0, l1, l2] L2 St S = ev c 37 29 [l0, l1, l2] L2 (aI 1 :: St) S := ev_go i37_28 rfl
theorem i37_29 : insAt 37 29 = some (.isub, 1, (0, 0, 0, 0), 0) := rfl
theorem s37_29 {c : Nat → List AV → SS → Option Out} {l0 l1 l2 : Option AV} {x y : Int32} {L2 : List (Nat × AV)} {St : List AV} {S : SS} : ev c 37 29 [l0, l1, l2] L2 (aI y :: aI x :: St) S = ev c 37 30 [l0, l1, l2] L2 (aI (x - y) :: St) S := ev_go i37_29 rfl
theorem i37_30 : insAt 37 30 = some (.invokestatic 36, 3, (31, 2, 1, 0), 120) := rfl
theorem s37_30 {c : Nat → List AV → SS → Option Out} {l0 l1 l2 : Option AV} {t0 : AV} {a0 : OId} {a1 : Int32} {L2 : List (Nat × AV)} {S : SS} : ev c 37 30 [l0, l1, l2] L2 [aI a1, aR a0, t0] S = ck (c 31 [aR a0, aI a1] S) (fun v S' => ev c 37 33 [l0, l1, l2] L2 (v.toList ++ [t0]) S') := ev_call i37_30 rfl
theorem i37_33 : insAt 37 33 = some (.invokevirtual 40, 3, (38, 1, 3, 6), 121) := rfl
theorem s37_33 {c : Nat → List AV → SS → Option Out} {l0 l1 l2 : Option AV} {a0 : Int32} {j t : Nat} {L2 : List (Nat × AV)} {S : SS} : ev c 37 33 [l0, l1, l2] L2 [aI a0, aR (6, j, t)] S = ck (c 38 [aR (6, j, t), aI a0] S) (fun v S' => ev c 37 36 [l0, l1, l2] L2 (v.toList ++ []) S') := ev_call i37_33 rfl
theorem i37_36 : insAt 37 36 = some (.aload_n 0, 1, (0, 0, 0, 0), 0) := rfl
theorem s37_36 {c : Nat → List AV → SS → Option Out} {l1 l2 : Option AV} {o : OId} {L2 : List (Nat × AV)} {St : List AV} {S : SS} : ev c 37 36 [some (aR o), l1, l2] L2 St S = ev c 37 37 [some (aR o), l1, l2] L2 (aR o :: St) S := ev_go i37_36 rfl
theorem i37_37 : insAt 37 37 = some (.getfield 19, 3, (9, 0, 0, 0), 69) := rfl
theorem s37_37 {c : Nat → List AV → SS → Option Out} {l0 l1 l2 : Option AV} {j t : Nat} {L2 : List (Nat × AV)} {St : List AV} {S : SS} : ev c 37 37 [l0, l1, l2] L2 (aR (9, j, t) :: St) S = ev c 37 40 [l0, l1, l2] L2 (S.2.2.1 (9, j, t) 0 :: St) S := ev_go i37_37 rfl
theorem i37_40 : insAt 37 40 = some (.iload_n 1, 1, (0, 0, 0, 0), 0) := rfl
theorem s37_40 {c : Nat → List AV → SS → Option Out} {l0 l2 : Option AV} {x : Int32} {L2 : List (Nat × AV)} {St : List AV} {S : SS} : ev c 37 40 [l0, some (aI x), l2] L2 St S = ev c 37 41 [l0, some (aI x), l2] L2 (aI x :: St) S := ev_go i37_40 rfl
theorem i37_41 : insAt 37 41 = some (.invokevirtual 40, 3, (38, 1, 3, 6), 121) := rfl
theorem s37_41 {c : Nat → List AV → SS → Option Out} {l0 l1 l2 : Option AV} {t0 : AV} {a0 : Int32} {j t : Nat} {L2 : List (Nat × AV)} {S : SS} : ev c 37 41 [l0, l1, l2] L2 [aI a0, aR (6, j, t), t0] S = ck (c 38 [aR (6, j, t), aI a0] S) (fun v S' => ev c 37 44 [l0, l1, l2] L2 (v.toList ++ [t0]) S') := ev_call i37_41 rfl
theorem i37_44 : insAt 37 44 = some (.if_icmp .ge 27, 3, (0, 0, 0, 0), 0) := rfl
theorem s37_44 {c : Nat → List AV → SS → Option Out} {l0 l1 l2 : Option AV} {x y : Int32} {L2 : List (Nat × AV)} {St : List AV} {S : SS} : ev c 37 44 [l0, l1, l2] L2 (aI y :: aI x :: St) S = if y ≤ x then ev c 37 71 [l0, l1, l2] L2 St S else ev c 37 47 [l0, l1, l2] L2 St S := ev_br i37_44 rfl
theorem i37_47 : insAt 37 47 = some (.aload_n 0, 1, (0, 0, 0, 0), 0) := rfl
theorem s37_47 {c : Nat → List AV → SS → Option Out} {l1 l2 : Option AV} {o : OId} {L2 : List (Nat × AV)} {St : List AV} {S : SS} : ev c 37 47 [some (aR o), l1, l2] L2 St S = ev c 37 48 [some (aR o), l1, l2] L2 (aR o :: St) S := ev_go i37_47 rfl
theorem i37_48 : insAt 37 48 = some (.getfield 9, 3, (9, 1, 0, 0), 67) := rfl
theorem s37_48 {c : Nat → List AV → SS → Option Out} {l0 l1 l2 : Option AV} {j t : Nat} {L2 : List (Nat × AV)} {St : List AV} {S : SS} : ev c 37 48 [l0, l1, l2] L2 (aR (9, j, t) :: St) S = ev c 37 51 [l0, l1, l2] L2 (S.2.2.1 (9, j, t) 1 :: St) S := ev_go i37_48 rfl
theorem i37_51 : insAt 37 51 = some (.iload_n 2, 1, (0, 0, 0, 0), 0) := rfl
theorem s37_51 {c : Nat → List AV → SS → Option Out} {l0 l1 : Option AV} {x : Int32} {L2 : List (Nat × AV)} {St : List AV} {S : SS} : ev c 37 51 [l0, l1, some (aI x)] L2 St S = ev c 37 52 [l0, l1, some (aI x)] L2 (aI x :: St) S := ev_go i37_51 rfl
theorem i37_52 : insAt 37 52 = some (.aload_n 0, 1, (0, 0, 0, 0), 0) := rfl
theorem s37_52 {c : Nat → List AV → SS → Option Out} {l1 l2 : Option AV} {o : OId} {L2 : List (Nat × AV)} {St : List AV} {S : SS} : ev c 37 52 [some (aR o), l1, l2] L2 St S = ev c 37 53 [some (aR o), l1, l2] L2 (aR o :: St) S := ev_go i37_52 rfl
theorem i37_53 : insAt 37 53 = some (.getfield 9, 3, (9, 1, 0, 0), 67) := rfl
theorem s37_53 {c : Nat → List AV → SS → Option Out} {l0 l1 l2 : Option AV} {j t : Nat} {L2 : List (Nat × AV)} {St : List AV} {S : SS} : ev c 37 53 [l0, l1, l2] L2 (aR (9, j, t) :: St) S = ev c 37 56 [l0, l1, l2] L2 (S.2.2.1 (9, j, t) 1 :: St) S := ev_go i37_53 rfl
theorem i37_56 : insAt 37 56 = some (.iload_n 2, 1, (0, 0, 0, 0), 0) := rfl
theorem s37_56 {c : Nat → List AV → SS → Option Out} {l0 l1 : Option AV} {x : Int32} {L2 : List (Nat × AV)} {St : List AV} {S : SS} : ev c 37 56 [l0, l1, some (aI x)] L2 St S = ev c 37 57 [l0, l1, some (aI x)] L2 (aI x :: St) S := ev_go i37_56 rfl
theorem i37_57 : insAt 37 57 = some (.iconst 1, 1, (0, 0, 0, 0), 0) := rfl
theorem s37_57 {c : Nat → List AV → SS → Option Out} {l0 l1 l2 : Option AV} {L2 : List (Nat × AV)} {St : List AV} {S : SS} : ev c 37 57 [l0, l1, l2] L2 St S = ev c 37 58 [l0, l1, l2] L2 (aI 1 :: St) S := ev_go i37_57 rfl
theorem i37_58 : insAt 37 58 = some (.isub, 1, (0, 0, 0, 0), 0) := rfl
theorem s37_58 {c : Nat → List AV → SS → Option Out} {l0 l1 l2 : Option AV} {x y : Int32} {L2 : List (Nat × AV)} {St : List AV} {S : SS} : ev c 37 58 [l0, l1, l2] L2 (aI y :: aI x :: St) S = ev c 37 59 [l0, l1, l2] L2 (aI (x - y) :: St) S := ev_go i37_58 rfl
theorem i37_59 : insAt 37 59 = some (.invokestatic 36, 3, (31, 2, 1, 0), 120) := rfl
theorem s37_59 {c : Nat → List AV → SS → Option Out} {l0 l1 l2 : Option AV} {t0 t1 : AV} {a0 : OId} {a1 : Int32} {L2 : List (Nat × AV)} {S : SS} : ev c 37 59 [l0, l1, l2] L2 [aI a1, aR a0, t0, t1] S = ck (c 31 [aR a0, aI a1] S) (fun v S' => ev c 37 62 [l0, l1, l2] L2 (v.toList ++ [t0, t1]) S') := ev_call i37_59 rfl
theorem i37_62 : insAt 37 62 = some (.invokestatic 44, 3, (35, 3, 1, 0), 122) := rfl
theorem s37_62 {c : Nat → List AV → SS → Option Out} {l0 l1 l2 : Option AV} {a0 : OId} {a1 : Int32} {a2 : Int32} {L2 : List (Nat × AV)} {S : SS} : ev c 37 62 [l0, l1, l2] L2 [aI a2, aI a1, aR a0] S = ck (c 35 [aR a0, aI a1, aI a2] S) (fun v S' => ev c 37 65 [l0, l1, l2] L2 (v.toList ++ []) S') := ev_call i37_62 rfl
theorem i37_65 : insAt 37 65 = some (.iinc 2 (-1), 3, (0, 0, 0, 0), 0) := rfl
theorem s37_65 {c : Nat → List AV → SS → Option Out} {l0 l1 : Option AV} {x : Int32} {L2 : List (Nat × AV)} {St : List AV} {S : SS} : ev c 37 65 [l0, l1, some (aI x)] L2 St S = ev c 37 68 [l0, l1, some (aI (x + (-1)))] (kil L2 2) St S := ev_go i37_65 rfl
theorem i37_68 : insAt 37 68 = some (.goto (-53), 3, (0, 0, 0, 0), 0) := rfl
theorem s37_68 {c : Nat → List AV → SS → Option Out} {l0 l1 l2 : Option AV} {L2 : List (Nat × AV)} {St : List AV} {S : SS} : ev c 37 68 [l0, l1, l2] L2 St S = ev c 37 15 [l0, l1, l2] L2 St S := ev_go i37_68 rfl
theorem i37_71 : insAt 37 71 = some (.aload_n 0, 1, (0, 0, 0, 0), 0) := rfl
theorem s37_71 {c : Nat → List AV → SS → Option Out} {l1 l2 : Option AV} {o : OId} {L2 : List (Nat × AV)} {St : List AV} {S : SS} : ev c 37 71 [some (aR o), l1, l2] L2 St S = ev c 37 72 [some (aR o), l1, l2] L2 (aR o :: St) S := ev_go i37_71 rfl
theorem i37_72 : insAt 37 72 = some (.getfield 9, 3, (9, 1, 0, 0), 67) := rfl
theorem s37_72 {c : Nat → List AV → SS → Option Out} {l0 l1 l2 : Option AV} {j t : Nat} {L2 : List (Nat × AV)} {St : List AV} {S : SS} : ev c 37 72 [l0, l1, l2] L2 (aR (9, j, t) :: St) S = ev c 37 75 [l0, l1, l2] L2 (S.2.2.1 (9, j, t) 1 :: St) S := ev_go i37_72 rfl
theorem i37_75 : insAt 37 75 = some (.iload_n 2, 1, (0, 0, 0, 0), 0) := rfl
theorem s37_75 {c : Nat → List AV → SS → Option Out} {l0 l1 : Option AV} {x : Int32} {L2 : List (Nat × AV)} {St : List AV} {S : SS} : ev c 37 75 [l0, l1, some (aI x)] L2 St S = ev c 37 76 [l0, l1, some (aI x)] L2 (aI x :: St) S := ev_go i37_75 rfl
theorem i37_76 : insAt 37 76 = some (.iload_n 1, 1, (0, 0, 0, 0), 0) := rfl
theorem s37_76 {c : Nat → List AV → SS → Option Out} {l0 l2 : Option AV} {x : Int32} {L2 : List (Nat × AV)} {St : List AV} {S : SS} : ev c 37 76 [l0, some (aI x), l2] L2 St S = ev c 37 77 [l0, some (aI x), l2] L2 (aI x :: St) S := ev_go i37_76 rfl
theorem i37_77 : insAt 37 77 = some (.invokestatic 44, 3, (35, 3, 1, 0), 122) := rfl
theorem s37_77 {c : Nat → List AV → SS → Option Out} {l0 l1 l2 : Option AV} {a0 : OId} {a1 : Int32} {a2 : Int32} {L2 : List (Nat × AV)} {S : SS} : ev c 37 77 [l0, l1, l2] L2 [aI a2, aI a1, aR a0] S = ck (c 35 [aR a0, aI a1, aI a2] S) (fun v S' => ev c 37 80 [l0, l1, l2] L2 (v.toList ++ []) S') := ev_call i37_77 rfl
theorem i37_80 : insAt 37 80 = some (.iinc 1 1, 3, (0, 0, 0, 0), 0) := rfl
theorem s37_80 {c : Nat → List AV → SS → Option Out} {l0 l2 : Option AV} {x : Int32} {L2 : List (Nat × AV)} {St : List AV} {S : SS} : ev c 37 80 [l0, some (aI x), l2] L2 St S = ev c 37 83 [l0, some (aI (x + 1)), l2] (kil L2 1) St S := ev_go i37_80 rfl
theorem i37_83 : insAt 37 83 = some (.goto (-81), 3, (0, 0, 0, 0), 0) := rfl
theorem s37_83 {c : Nat → List AV → SS → Option Out} {l0 l1 l2 : Option AV} {L2 : List (Nat × AV)} {St : List AV} {S : SS} : ev c 37 83 [l0, l1, l2] L2 St S = ev c 37 2 [l0, l1, l2] L2 St S := ev_go i37_83 rfl
theorem i37_86 : insAt 37 86 = some (.return_, 1, (0, 0, 0, 0), 0) := rfl
theorem s37_86 {c : Nat → List AV → SS → Option Out} {l0 l1 l2 : Option AV} {L2 : List (Nat × AV)} {S : SS} : ev c 37 86 [l0, l1, l2] L2 [] S = some (.inl none, S) := ev_end i37_86 rfl
theorem m37 {d : Nat} {o : OId} {S : SS} : evm (d + 1) 37 [aR o] S = ev (evm d) 37 0 [some (aR o), none, none] [] [] S := evm_s (n := 3) rfl (Nat.le_of_ble_eq_true rfl) rfl rfl
/-! FrequencyOffice$Net.sumOfSeparations(I)I -/
theorem i38_0 : insAt 38 0 = some (.iconst 0, 1, (0, 0, 0, 0), 0) := rfl
theorem s38_0 {c : Nat → List AV → SS → Option Out} {l0 l1 l2 l3 : Option AV} {L2 : List (Nat × AV)} {St : List AV} {S : SS} : ev c 38 0 [l0, l1, l2, l3] L2 St S = ev c 38 1 [l0, l1, l2, l3] L2 (aI 0 :: St) S := ev_go i38_0 rfl
theorem i38_1 : insAt 38 1 = some (.istore_n 2, 1, (0, 0, 0, 0), 0) := rfl
theorem s38_1 {c : Nat → List AV → SS → Option Out} {l0 l1 l2 l3 : Option AV} {x : Int32} {L2 : List (Nat × AV)} {St : List AV} {S : SS} : ev c 38 1 [l0, l1, l2, l3] L2 (aI x :: St) S = ev c 38 2 [l0, l1, some (aI x), l3] (kil L2 2) St S := ev_go i38_1 rfl
theorem i38_2 : insAt 38 2 = some (.iconst 0, 1, (0, 0, 0, 0), 0) := rfl
theorem s38_2 {c : Nat → List AV → SS → Option Out} {l0 l1 l2 l3 : Option AV} {L2 : List (Nat × AV)} {St : List AV} {S : SS} : ev c 38 2 [l0, l1, l2, l3] L2 St S = ev c 38 3 [l0, l1, l2, l3] L2 (aI 0 :: St) S := ev_go i38_2 rfl
theorem i38_3 : insAt 38 3 = some (.istore_n 3, 1, (0, 0, 0, 0), 0) := rfl
theorem s38_3 {c : Nat → List AV → SS → Option Out} {l0 l1 l2 l3 : Option AV} {x : Int32} {L2 : List (Nat × AV)} {St : List AV} {S : SS} : ev c 38 3 [l0, l1, l2, l3] L2 (aI x :: St) S = ev c 38 4 [l0, l1, l2, some (aI x)] (kil L2 3) St S := ev_go i38_3 rfl
theorem i38_4 : insAt 38 4 = some (.iload_n 3, 1, (0, 0, 0, 0), 0) := rfl
theorem s38_4 {c : Nat → List AV → SS → Option Out} {l0 l1 l2 : Option AV} {x : Int32} {L2 : List (Nat × AV)} {St : List AV} {S : SS} : ev c 38 4 [l0, l1, l2, some (aI x)] L2 St S = ev c 38 5 [l0, l1, l2, some (aI x)] L2 (aI x :: St) S := ev_go i38_4 rfl
theorem i38_5 : insAt 38 5 = some (.aload_n 0, 1, (0, 0, 0, 0), 0) := rfl
theorem s38_5 {c : Nat → List AV → SS → Option Out} {l1 l2 l3 : Option AV} {o : OId} {L2 : List (Nat × AV)} {St : List AV} {S : SS} : ev c 38 5 [some (aR o), l1, l2, l3] L2 St S = ev c 38 6 [some (aR o), l1, l2, l3] L2 (aR o :: St) S := ev_go i38_5 rfl
theorem i38_6 : insAt 38 6 = some (.getfield 9, 3, (6, 0, 0, 0), 51) := rfl
theorem s38_6 {c : Nat → List AV → SS → Option Out} {l0 l1 l2 l3 : Option AV} {j t : Nat} {L2 : List (Nat × AV)} {St : List AV} {S : SS} : ev c 38 6 [l0, l1, l2, l3] L2 (aR (6, j, t) :: St) S = ev c 38 9 [l0, l1, l2, l3] L2 (aI (S.1 (6, j, t) 0) :: St) S := ev_go i38_6 rfl
theorem i38_9 : insAt 38 9 = some (.if_icmp .ge 27, 3, (0, 0, 0, 0), 0) := rfl
theorem s38_9 {c : Nat → List AV → SS → Option Out} {l0 l1 l2 l3 : Option AV} {x y : Int32} {L2 : List (Nat × AV)} {St : List AV} {S : SS} : ev c 38 9 [l0, l1, l2, l3] L2 (aI y :: aI x :: St) S = if y ≤ x then ev c 38 36 [l0, l1, l2, l3] L2 St S else ev c 38 12 [l0, l1, l2, l3] L2 St S := ev_br i38_9 rfl
theorem i38_12 : insAt 38 12 = some (.iload_n 2, 1, (0, 0, 0, 0), 0) := rfl
theorem s38_12 {c : Nat → List AV → SS → Option Out} {l0 l1 l3 : Option AV} {x : Int32} {L2 : List (Nat × AV)} {St : List AV} {S : SS} : ev c 38 12 [l0, l1, some (aI x), l3] L2 St S = ev c 38 13 [l0, l1, some (aI x), l3] L2 (aI x :: St) S := ev_go i38_12 rfl
theorem i38_13 : insAt 38 13 = some (.iload_n 3, 1, (0, 0, 0, 0), 0) := rfl
theorem s38_13 {c : Nat → List AV → SS → Option Out} {l0 l1 l2 : Option AV} {x : Int32} {L2 : List (Nat × AV)} {St : List AV} {S : SS} : ev c 38 13 [l0, l1, l2, some (aI x)] L2 St S = ev c 38 14 [l0, l1, l2, some (aI x)] L2 (aI x :: St) S := ev_go i38_13 rfl
theorem i38_14 : insAt 38 14 = some (.iload_n 1, 1, (0, 0, 0, 0), 0) := rfl
theorem s38_14 {c : Nat → List AV → SS → Option Out} {l0 l2 l3 : Option AV} {x : Int32} {L2 : List (Nat × AV)} {St : List AV} {S : SS} : ev c 38 14 [l0, some (aI x), l2, l3] L2 St S = ev c 38 15 [l0, some (aI x), l2, l3] L2 (aI x :: St) S := ev_go i38_14 rfl
theorem i38_15 : insAt 38 15 = some (.if_icmp .ne 7, 3, (0, 0, 0, 0), 0) := rfl
theorem s38_15 {c : Nat → List AV → SS → Option Out} {l0 l1 l2 l3 : Option AV} {x y : Int32} {L2 : List (Nat × AV)} {St : List AV} {S : SS} : ev c 38 15 [l0, l1, l2, l3] L2 (aI y :: aI x :: St) S = if x = y then ev c 38 18 [l0, l1, l2, l3] L2 St S else ev c 38 22 [l0, l1, l2, l3] L2 St S := (ev_br i38_15 rfl).trans (ite_not _ _ _)
theorem i38_18 : insAt 38 18 = some (.iconst 0, 1, (0, 0, 0, 0), 0) := rfl
theorem s38_18 {c : Nat → List AV → SS → Option Out} {l0 l1 l2 l3 : Option AV} {L2 : List (Nat × AV)} {St : List AV} {S : SS} : ev c 38 18 [l0, l1, l2, l3] L2 St S = ev c 38 19 [l0, l1, l2, l3] L2 (aI 0 :: St) S := ev_go i38_18 rfl
theorem i38_19 : insAt 38 19 = some (.goto 9, 3, (0, 0, 0, 0), 0) := rfl
theorem s38_19 {c : Nat → List AV → SS → Option Out} {l0 l1 l2 l3 : Option AV} {L2 : List (Nat × AV)} {St : List AV} {S : SS} : ev c 38 19 [l0, l1, l2, l3] L2 St S = ev c 38 28 [l0, l1, l2, l3] L2 St S := ev_go i38_19 rfl
theorem i38_22 : insAt 38 22 = some (.aload_n 0, 1, (0, 0, 0, 0), 0) := rfl
theorem s38_22 {c : Nat → List AV → SS → Option Out} {l1 l2 l3 : Option AV} {o : OId} {L2 : List (Nat × AV)} {St : List AV} {S : SS} : ev c 38 22 [some (aR o), l1, l2, l3] L2 St S = ev c 38 23 [some (aR o), l1, l2, l3] L2 (aR o :: St) S := ev_go i38_22 rfl
theorem i38_23 : insAt 38 23 = some (.iload_n 1, 1, (0, 0, 0, 0), 0) := rfl
theorem s38_23 {c : Nat → List AV → SS → Option Out} {l0 l2 l3 : Option AV} {x : Int32} {L2 : List (Nat × AV)} {St : List AV} {S : SS} : ev c 38 23 [l0, some (aI x), l2, l3] L2 St S = ev c 38 24 [l0, some (aI x), l2, l3] L2 (aI x :: St) S := ev_go i38_23 rfl
theorem i38_24 : insAt 38 24 = some (.iload_n 3, 1, (0, 0, 0, 0), 0) := rfl
theorem s38_24 {c : Nat → List AV → SS → Option Out} {l0 l1 l2 : Option AV} {x : Int32} {L2 : List (Nat × AV)} {St : List AV} {S : SS} : ev c 38 24 [l0, l1, l2, some (aI x)] L2 St S = ev c 38 25 [l0, l1, l2, some (aI x)] L2 (aI x :: St) S := ev_go i38_24 rfl
theorem i38_25 : insAt 38 25 = some (.invokevirtual 68, 3, (39, 2, 2, 6), 123) := rfl
theorem s38_25 {c : Nat → List AV → SS → Option Out} {l0 l1 l2 l3 : Option AV} {t0 : AV} {a0 : Int32} {a1 : Int32} {j t : Nat} {L2 : List (Nat × AV)} {S : SS} : ev c 38 25 [l0, l1, l2, l3] L2 [aI a1, aI a0, aR (6, j, t), t0] S = ck (c 39 [aR (6, j, t), aI a0, aI a1] S) (fun v S' => ev c 38 28 [l0, l1, l2, l3] L2 (v.toList ++ [t0]) S') := ev_call i38_25 rfl
theorem i38_28 : insAt 38 28 = some (.iadd, 1, (0, 0, 0, 0), 0) := rfl
theorem s38_28 {c : Nat → List AV → SS → Option Out} {l0 l1 l2 l3 : Option AV} {x y : Int32} {L2 : List (Nat × AV)} {St : List AV} {S : SS} : ev c 38 28 [l0, l1, l2, l3] L2 (aI y :: aI x :: St) S = ev c 38 29 [l0, l1, l2, l3] L2 (aI (x + y) :: St) S := ev_go i38_28 rfl
theorem i38_29 : insAt 38 29 = some (.istore_n 2, 1, (0, 0, 0, 0), 0) := rfl
theorem s38_29 {c : Nat → List AV → SS → Option Out} {l0 l1 l2 l3 : Option AV} {x : Int32} {L2 : List (Nat × AV)} {St : List AV} {S : SS} : ev c 38 29 [l0, l1, l2, l3] L2 (aI x :: St) S = ev c 38 30 [l0, l1, some (aI x), l3] (kil L2 2) St S := ev_go i38_29 rfl
theorem i38_30 : insAt 38 30 = some (.iinc 3 1, 3, (0, 0, 0, 0), 0) := rfl
theorem s38_30 {c : Nat → List AV → SS → Option Out} {l0 l1 l2 : Option AV} {x : Int32} {L2 : List (Nat × AV)} {St : List AV} {S : SS} : ev c 38 30 [l0, l1, l2, some (aI x)] L2 St S = ev c 38 33 [l0, l1, l2, some (aI (x + 1))] (kil L2 3) St S := ev_go i38_30 rfl
theorem i38_33 : insAt 38 33 = some (.goto (-29), 3, (0, 0, 0, 0), 0) := rfl
theorem s38_33 {c : Nat → List AV → SS → Option Out} {l0 l1 l2 l3 : Option AV} {L2 : List (Nat × AV)} {St : List AV} {S : SS} : ev c 38 33 [l0, l1, l2, l3] L2 St S = ev c 38 4 [l0, l1, l2, l3] L2 St S := ev_go i38_33 rfl
theorem i38_36 : insAt 38 36 = some (.iload_n 2, 1, (0, 0, 0, 0), 0) := rfl
theorem s38_36 {c : Nat → List AV → SS → Option Out} {l0 l1 l3 : Option AV} {x : Int32} {L2 : List (Nat × AV)} {St : List AV} {S : SS} : ev c 38 36 [l0, l1, some (aI x), l3] L2 St S = ev c 38 37 [l0, l1, some (aI x), l3] L2 (aI x :: St) S := ev_go i38_36 rfl
theorem i38_37 : insAt 38 37 = some (.ireturn, 1, (0, 0, 0, 0), 0) := rfl
theorem s38_37 {c : Nat → List AV → SS → Option Out} {l0 l1 l2 l3 : Option AV} {x : Int32} {L2 : List (Nat × AV)} {S : SS} : ev c 38 37 [l0, l1, l2, l3] L2 [aI x] S = some (.inl (some (aI x)), S) := ev_end i38_37 rfl
theorem m38 {d : Nat} {o : OId} {a0 : Int32} {S : SS} : evm (d + 1) 38 [aR o, aI a0] S = ev (evm d) 38 0 [some (aR o), some (aI a0), none, none] [] [] S := evm_s (n := 4) rfl (Nat.le_of_ble_eq_true rfl) rfl rfl
/-! FrequencyOffice$Net.apart(II)I -/
theorem i39_0 : insAt 39 0 = some (.aload_n 0, 1, (0, 0, 0, 0), 0) := rfl
theorem s39_0 {c : Nat → List AV → SS → Option Out} {l1 l2 : Option AV} {o : OId} {L2 : List (Nat × AV)} {St : List AV} {S : SS} : ev c 39 0 [some (aR o), l1, l2] L2 St S = ev c 39 1 [some (aR o), l1, l2] L2 (aR o :: St) S := ev_go i39_0 rfl
theorem i39_1 : insAt 39 1 = some (.getfield 25, 3, (6, 4, 0, 0), 55) := rfl
theorem s39_1 {c : Nat → List AV → SS → Option Out} {l0 l1 l2 : Option AV} {j t : Nat} {L2 : List (Nat × AV)} {St : List AV} {S : SS} : ev c 39 1 [l0, l1, l2] L2 (aR (6, j, t) :: St) S = ev c 39 4 [l0, l1, l2] L2 (S.2.2.1 (6, j, t) 4 :: St) S := ev_go i39_1 rfl
theorem i39_4 : insAt 39 4 = some (.iload_n 1, 1, (0, 0, 0, 0), 0) := rfl
theorem s39_4 {c : Nat → List AV → SS → Option Out} {l0 l2 : Option AV} {x : Int32} {L2 : List (Nat × AV)} {St : List AV} {S : SS} : ev c 39 4 [l0, some (aI x), l2] L2 St S = ev c 39 5 [l0, some (aI x), l2] L2 (aI x :: St) S := ev_go i39_4 rfl
theorem i39_5 : insAt 39 5 = some (.iload_n 2, 1, (0, 0, 0, 0), 0) := rfl
theorem s39_5 {c : Nat → List AV → SS → Option Out} {l0 l1 : Option AV} {x : Int32} {L2 : List (Nat × AV)} {St : List AV} {S : SS} : ev c 39 5 [l0, l1, some (aI x)] L2 St S = ev c 39 6 [l0, l1, some (aI x)] L2 (aI x :: St) S := ev_go i39_5 rfl
theorem i39_6 : insAt 39 6 = some (.invokestatic 55, 3, (30, 2, 1, 0), 113) := rfl
theorem s39_6 {c : Nat → List AV → SS → Option Out} {l0 l1 l2 : Option AV} {t0 : AV} {a0 : Int32} {a1 : Int32} {L2 : List (Nat × AV)} {S : SS} : ev c 39 6 [l0, l1, l2] L2 [aI a1, aI a0, t0] S = ck (c 30 [aI a0, aI a1] S) (fun v S' => ev c 39 9 [l0, l1, l2] L2 (v.toList ++ [t0]) S') := ev_call i39_6 rfl
theorem i39_9 : insAt 39 9 = some (.invokestatic 47, 3, (31, 2, 1, 0), 111) := rfl
theorem s39_9 {c : Nat → List AV → SS → Option Out} {l0 l1 l2 : Option AV} {a0 : OId} {a1 : Int32} {L2 : List (Nat × AV)} {S : SS} : ev c 39 9 [l0, l1, l2] L2 [aI a1, aR a0] S = ck (c 31 [aR a0, aI a1] S) (fun v S' => ev c 39 12 [l0, l1, l2] L2 (v.toList ++ []) S') := ev_call i39_9 rfl
theorem i39_12 : insAt 39 12 = some (.ireturn, 1, (0, 0, 0, 0), 0) := rfl
theorem s39_12 {c : Nat → List AV → SS → Option Out} {l0 l1 l2 : Option AV} {x : Int32} {L2 : List (Nat × AV)} {S : SS} : ev c 39 12 [l0, l1, l2] L2 [aI x] S = some (.inl (some (aI x)), S) := ev_end i39_12 rfl
theorem m39 {d : Nat} {o : OId} {a0 : Int32} {a1 : Int32} {S : SS} : evm (d + 1) 39 [aR o, aI a0, aI a1] S = ev (evm d) 39 0 [some (aR o), some (aI a0), some (aI a1)] [] [] S := evm_s (n := 3) rfl (Nat.le_of_ble_eq_true rfl) rfl rfl
/-! FrequencyOffice$Spans.assign(LFrequencyOffice$Spans;III)Z -/
theorem i40_0 : insAt 40 0 = some (.iload_n 1, 1, (0, 0, 0, 0), 0) := rfl
theorem s40_0 {c : Nat → List AV → SS → Option Out} {l0 l2 l3 l4 l5 l6 l7 : Option AV} {x : Int32} {L2 : List (Nat × AV)} {St : List AV} {S : SS} : ev c 40 0 [l0, some (aI x), l2, l3, l4, l5, l6, l7] L2 St S = ev c 40 1 [l0, some (aI x), l2, l3, l4, l5, l6, l7] L2 (aI x :: St) S := ev_go i40_0 rfl
theorem i40_1 : insAt 40 1 = some (.aload_n 0, 1, (0, 0, 0, 0), 0) := rfl
theorem s40_1 {c : Nat → List AV → SS → Option Out} {l1 l2 l3 l4 l5 l6 l7 : Option AV} {o : OId} {L2 : List (Nat × AV)} {St : List AV} {S : SS} : ev c 40 1 [some (aR o), l1, l2, l3, l4, l5, l6, l7] L2 St S = ev c 40 2 [some (aR o), l1, l2, l3, l4, l5, l6, l7] L2 (aR o :: St) S := ev_go i40_1 rfl
theorem i40_2 : insAt 40 2 = some (.getfield 19, 3, (9, 0, 0, 0), 69) := rfl
theorem s40_2 {c : Nat → List AV → SS → Option Out} {l0 l1 l2 l3 l4 l5 l6 l7 : Option AV} {j t : Nat} {L2 : List (Nat × AV)} {St : List AV} {S : SS} : ev c 40 2 [l0, l1, l2, l3, l4, l5, l6, l7] L2 (aR (9, j, t) :: St) S = ev c 40 5 [l0, l1, l2, l3, l4, l5, l6, l7] L2 (S.2.2.1 (9, j, t) 0 :: St) S := ev_go i40_2 rfl
theorem i40_5 : insAt 40 5 = some (.getfield 30, 3, (6, 0, 1, 0), 119) := rfl
theorem s40_5 {c : Nat → List AV → SS → Option Out} {l0 l1 l2 l3 l4 l5 l6 l7 : Option AV} {j t : Nat} {L2 : List (Nat × AV)} {St : List AV} {S : SS} : ev c 40 5 [l0, l1, l2, l3, l4, l5, l6, l7] L2 (aR (6, j, t) :: St) S = ev c 40 8 [l0, l1, l2, l3, l4, l5, l6, l7] L2 (aI (S.1 (6, j, t) 0) :: St) S := ev_go i40_5 rfl
theorem i40_8 : insAt 40 8 = some (.if_icmp .lt 5, 3, (0, 0, 0, 0), 0) := rfl
theorem s40_8 {c : Nat → List AV → SS → Option Out} {l0 l1 l2 l3 l4 l5 l6 l7 : Option AV} {x y : Int32} {L2 : List (Nat × AV)} {St : List AV} {S : SS} : ev c 40 8 [l0, l1, l2, l3, l4, l5, l6, l7] L2 (aI y :: aI x :: St) S = if x < y then ev c 40 13 [l0, l1, l2, l3, l4, l5, l6, l7] L2 St S else ev c 40 11 [l0, l1, l2, l3, l4, l5, l6, l7] L2 St S := ev_br i40_8 rfl
theorem i40_11 : insAt 40 11 = some (.iconst 1, 1, (0, 0, 0, 0), 0) := rfl
theorem s40_11 {c : Nat → List AV → SS → Option Out} {l0 l1 l2 l3 l4 l5 l6 l7 : Option AV} {L2 : List (Nat × AV)} {St : List AV} {S : SS} : ev c 40 11 [l0, l1, l2, l3, l4, l5, l6, l7] L2 St S = ev c 40 12 [l0, l1, l2, l3, l4, l5, l6, l7] L2 (aI 1 :: St) S := ev_go i40_11 rfl
theorem i40_12 : insAt 40 12 = some (.ireturn, 1, (0, 0, 0, 0), 0) := rfl
theorem s40_12 {c : Nat → List AV → SS → Option Out} {l0 l1 l2 l3 l4 l5 l6 l7 : Option AV} {x : Int32} {L2 : List (Nat × AV)} {S : SS} : ev c 40 12 [l0, l1, l2, l3, l4, l5, l6, l7] L2 [aI x] S = if x = 0 ∨ x = 1 then some (.inl (some (aI x)), S) else none := ev_rt i40_12 rfl
theorem i40_13 : insAt 40 13 = some (.aload_n 0, 1, (0, 0, 0, 0), 0) := rfl
theorem s40_13 {c : Nat → List AV → SS → Option Out} {l1 l2 l3 l4 l5 l6 l7 : Option AV} {o : OId} {L2 : List (Nat × AV)} {St : List AV} {S : SS} : ev c 40 13 [some (aR o), l1, l2, l3, l4, l5, l6, l7] L2 St S = ev c 40 14 [some (aR o), l1, l2, l3, l4, l5, l6, l7] L2 (aR o :: St) S := ev_go i40_13 rfl
theorem i40_14 : insAt 40 14 = some (.getfield 9, 3, (9, 1, 0, 0), 67) := rfl
theorem s40_14 {c : Nat → List AV → SS → Option Out} {l0 l1 l2 l3 l4 l5 l6 l7 : Option AV} {j t : Nat} {L2 : List (Nat × AV)} {St : List AV} {S : SS} : ev c 40 14 [l0, l1, l2, l3, l4, l5, l6, l7] L2 (aR (9, j, t) :: St) S = ev c 40 17 [l0, l1, l2, l3, l4, l5, l6, l7] L2 (S.2.2.1 (9, j, t) 1 :: St) S := ev_go i40_14 rfl
theorem i40_17 : insAt 40 17 = some (.iload_n 1, 1, (0, 0, 0, 0), 0) := rfl
theorem s40_17 {c : Nat → List AV → SS → Option Out} {l0 l2 l3 l4 l5 l6 l7 : Option AV} {x : Int32} {L2 : List (Nat × AV)} {St : List AV} {S : SS} : ev c 40 17 [l0, some (aI x), l2, l3, l4, l5, l6, l7] L2 St S = ev c 40 18 [l0, some (aI x), l2, l3, l4, l5, l6, l7] L2 (aI x :: St) S := ev_go i40_17 rfl
theorem i40_18 : insAt 40 18 = some (.invokestatic 36, 3, (31, 2, 1, 0), 120) := rfl
theorem s40_18 {c : Nat → List AV → SS → Option Out} {l0 l1 l2 l3 l4 l5 l6 l7 : Option AV} {a0 : OId} {a1 : Int32} {L2 : List (Nat × AV)} {S : SS} : ev c 40 18 [l0, l1, l2, l3, l4, l5, l6, l7] L2 [aI a1, aR a0] S = ck (c 31 [aR a0, aI a1] S) (fun v S' => ev c 40 21 [l0, l1, l2, l3, l4, l5, l6, l7] L2 (v.toList ++ []) S') := ev_call i40_18 rfl
theorem i40_21 : insAt 40 21 = some (.istore 4, 2, (0, 0, 0, 0), 0) := rfl
theorem s40_21 {c : Nat → List AV → SS → Option Out} {l0 l1 l2 l3 l4 l5 l6 l7 : Option AV} {x : Int32} {L2 : List (Nat × AV)} {St : List AV} {S : SS} : ev c 40 21 [l0, l1, l2, l3, l4, l5, l6, l7] L2 (aI x :: St) S = ev c 40 23 [l0, l1, l2, l3, some (aI x), l5, l6, l7] (kil L2 4) St S := ev_go i40_21 rfl
theorem i40_23 : insAt 40 23 = some (.aload_n 0, 1, (0, 0, 0, 0), 0) := rfl
theorem s40_23 {c : Nat → List AV → SS → Option Out} {l1 l2 l3 l4 l5 l6 l7 : Option AV} {o : OId} {L2 : List (Nat × AV)} {St : List AV} {S : SS} : ev c 40 23 [some (aR o), l1, l2, l3, l4, l5, l6, l7] L2 St S = ev c 40 24 [some (aR o), l1, l2, l3, l4, l5, l6, l7] L2 (aR o :: St) S := ev_go i40_23 rfl
theorem i40_24 : insAt 40 24 = some (.iload_n 1, 1, (0, 0, 0, 0), 0) := rfl
theorem s40_24 {c : Nat → List AV → SS → Option Out} {l0 l2 l3 l4 l5 l6 l7 : Option AV} {x : Int32} {L2 : List (Nat × AV)} {St : List AV} {S : SS} : ev c 40 24 [l0, some (aI x), l2, l3, l4, l5, l6, l7] L2 St S = ev c 40 25 [l0, some (aI x), l2, l3, l4, l5, l6, l7] L2 (aI x :: St) S := ev_go i40_24 rfl
theorem i40_25 : insAt 40 25 = some (.iload 4, 2, (0, 0, 0, 0), 0) := rfl
theorem s40_25 {c : Nat → List AV → SS → Option Out} {l0 l1 l2 l3 l5 l6 l7 : Option AV} {x : Int32} {L2 : List (Nat × AV)} {St : List AV} {S : SS} : ev c 40 25 [l0, l1, l2, l3, some (aI x), l5, l6, l7] L2 St S = ev c 40 27 [l0, l1, l2, l3, some (aI x), l5, l6, l7] L2 (aI x :: St) S := ev_go i40_25 rfl
theorem i40_27 : insAt 40 27 = some (.invokevirtual 48, 3, (41, 2, 2, 9), 124) := rfl
theorem s40_27 {c : Nat → List AV → SS → Option Out} {l0 l1 l2 l3 l4 l5 l6 l7 : Option AV} {a0 : Int32} {a1 : Int32} {j t : Nat} {L2 : List (Nat × AV)} {S : SS} : ev c 40 27 [l0, l1, l2, l3, l4, l5, l6, l7] L2 [aI a1, aI a0, aR (9, j, t)] S = ck (c 41 [aR (9, j, t), aI a0, aI a1] S) (fun v S' => ev c 40 30 [l0, l1, l2, l3, l4, l5, l6, l7] L2 (v.toList ++ []) S') := ev_call i40_27 rfl
theorem i40_30 : insAt 40 30 = some (.lstore 5, 2, (0, 0, 0, 0), 0) := rfl
theorem s40_30 {c : Nat → List AV → SS → Option Out} {l0 l1 l2 l3 l4 l5 l6 l7 : Option AV} {x : Int64} {L2 : List (Nat × AV)} {St : List AV} {S : SS} : ev c 40 30 [l0, l1, l2, l3, l4, l5, l6, l7] L2 (aL x :: St) S = ev c 40 32 [l0, l1, l2, l3, l4, none, none, l7] ((5, aL x) :: kil2 L2 5) St S := ev_go i40_30 rfl
theorem i40_32 : insAt 40 32 = some (.iconst 0, 1, (0, 0, 0, 0), 0) := rfl
theorem s40_32 {c : Nat → List AV → SS → Option Out} {l0 l1 l2 l3 l4 l5 l6 l7 : Option AV} {L2 : List (Nat × AV)} {St : List AV} {S : SS} : ev c 40 32 [l0, l1, l2, l3, l4, l5, l6, l7] L2 St S = ev c 40 33 [l0, l1, l2, l3, l4, l5, l6, l7] L2 (aI 0 :: St) S := ev_go i40_32 rfl
theorem i40_33 : insAt 40 33 = some (.istore 7, 2, (0, 0, 0, 0), 0) := rfl
theorem s40_33 {c : Nat → List AV → SS → Option Out} {l0 l1 l2 l3 l4 l5 l6 l7 : Option AV} {x : Int32} {L2 : List (Nat × AV)} {St : List AV} {S : SS} : ev c 40 33 [l0, l1, l2, l3, l4, l5, l6, l7] L2 (aI x :: St) S = ev c 40 35 [l0, l1, l2, l3, l4, l5, l6, some (aI x)] (kil L2 7) St S := ev_go i40_33 rfl
theorem i40_35 : insAt 40 35 = some (.iload 7, 2, (0, 0, 0, 0), 0) := rfl
theorem s40_35 {c : Nat → List AV → SS → Option Out} {l0 l1 l2 l3 l4 l5 l6 : Option AV} {x : Int32} {L2 : List (Nat × AV)} {St : List AV} {S : SS} : ev c 40 35 [l0, l1, l2, l3, l4, l5, l6, some (aI x)] L2 St S = ev c 40 37 [l0, l1, l2, l3, l4, l5, l6, some (aI x)] L2 (aI x :: St) S := ev_go i40_35 rfl
theorem i40_37 : insAt 40 37 = some (.iload_n 3, 1, (0, 0, 0, 0), 0) := rfl
theorem s40_37 {c : Nat → List AV → SS → Option Out} {l0 l1 l2 l4 l5 l6 l7 : Option AV} {x : Int32} {L2 : List (Nat × AV)} {St : List AV} {S : SS} : ev c 40 37 [l0, l1, l2, some (aI x), l4, l5, l6, l7] L2 St S = ev c 40 38 [l0, l1, l2, some (aI x), l4, l5, l6, l7] L2 (aI x :: St) S := ev_go i40_37 rfl
theorem i40_38 : insAt 40 38 = some (.if_icmp .ge 48, 3, (0, 0, 0, 0), 0) := rfl
theorem s40_38 {c : Nat → List AV → SS → Option Out} {l0 l1 l2 l3 l4 l5 l6 l7 : Option AV} {x y : Int32} {L2 : List (Nat × AV)} {St : List AV} {S : SS} : ev c 40 38 [l0, l1, l2, l3, l4, l5, l6, l7] L2 (aI y :: aI x :: St) S = if y ≤ x then ev c 40 86 [l0, l1, l2, l3, l4, l5, l6, l7] L2 St S else ev c 40 41 [l0, l1, l2, l3, l4, l5, l6, l7] L2 St S := ev_br i40_38 rfl
theorem i40_41 : insAt 40 41 = some (.lload 5, 2, (0, 0, 0, 0), 0) := rfl
theorem s40_41 {c : Nat → List AV → SS → Option Out} {l0 l1 l2 l3 l4 l5 l6 l7 : Option AV} {x : Int64} {L2 : List (Nat × AV)} {St : List AV} {S : SS} (h : ldL L2 5 = some x) : ev c 40 41 [l0, l1, l2, l3, l4, l5, l6, l7] L2 St S = ev c 40 43 [l0, l1, l2, l3, l4, l5, l6, l7] L2 (aL x :: St) S := ev_go i40_41 (by simp only [stepI]; exact (congrArg (fun q => match q with | some x => nx (41 + 2) [l0, l1, l2, l3, l4, l5, l6, l7] L2 (aL x :: St) S | none => none) h))
theorem i40_43 : insAt 40 43 = some (.iload 7, 2, (0, 0, 0, 0), 0) := rfl
theorem s40_43 {c : Nat → List AV → SS → Option Out} {l0 l1 l2 l3 l4 l5 l6 : Option AV} {x : Int32} {L2 : List (Nat × AV)} {St : List AV} {S : SS} : ev c 40 43 [l0, l1, l2, l3, l4, l5, l6, some (aI x)] L2 St S = ev c 40 45 [l0, l1, l2, l3, l4, l5, l6, some (aI x)] L2 (aI x :: St) S := ev_go i40_43 rfl
theorem i40_45 : insAt 40 45 = some (.invokestatic 52, 3, (42, 2, 1, 0), 125) := rfl
theorem s40_45 {c : Nat → List AV → SS → Option Out} {l0 l1 l2 l3 l4 l5 l6 l7 : Option AV} {a0 : Int64} {a1 : Int32} {L2 : List (Nat × AV)} {S : SS} : ev c 40 45 [l0, l1, l2, l3, l4, l5, l6, l7] L2 [aI a1, aL a0] S = ck (c 42 [aL a0, aI a1] S) (fun v S' => ev c 40 48 [l0, l1, l2, l3, l4, l5, l6, l7] L2 (v.toList ++ []) S') := ev_call i40_45 rfl
theorem i40_48 : insAt 40 48 = some (.ifCond .ne 32, 3, (0, 0, 0, 0), 0) := rfl
theorem s40_48 {c : Nat → List AV → SS → Option Out} {l0 l1 l2 l3 l4 l5 l6 l7 : Option AV} {x : Int32} {L2 : List (Nat × AV)} {St : List AV} {S : SS} : ev c 40 48 [l0, l1, l2, l3, l4, l5, l6, l7] L2 (aI x :: St) S = if x = 0 then ev c 40 51 [l0, l1, l2, l3, l4, l5, l6, l7] L2 St S else ev c 40 80 [l0, l1, l2, l3, l4, l5, l6, l7] L2 St S := (ev_br i40_48 rfl).trans (ite_not _ _ _)
theorem i40_51 : insAt 40 51 = some (.aload_n 0, 1, (0, 0, 0, 0), 0) := rfl
theorem s40_51 {c : Nat → List AV → SS → Option Out} {l1 l2 l3 l4 l5 l6 l7 : Option AV} {o : OId} {L2 : List (Nat × AV)} {St : List AV} {S : SS} : ev c 40 51 [some (aR o), l1, l2, l3, l4, l5, l6, l7] L2 St S = ev c 40 52 [some (aR o), l1, l2, l3, l4, l5, l6, l7] L2 (aR o :: St) S := ev_go i40_51 rfl
theorem i40_52 : insAt 40 52 = some (.iload 4, 2, (0, 0, 0, 0), 0) := rfl
theorem s40_52 {c : Nat → List AV → SS → Option Out} {l0 l1 l2 l3 l5 l6 l7 : Option AV} {x : Int32} {L2 : List (Nat × AV)} {St : List AV} {S : SS} : ev c 40 52 [l0, l1, l2, l3, some (aI x), l5, l6, l7] L2 St S = ev c 40 54 [l0, l1, l2, l3, some (aI x), l5, l6, l7] L2 (aI x :: St) S := ev_go i40_52 rfl
theorem i40_54 : insAt 40 54 = some (.iload 7, 2, (0, 0, 0, 0), 0) := rfl
theorem s40_54 {c : Nat → List AV → SS → Option Out} {l0 l1 l2 l3 l4 l5 l6 : Option AV} {x : Int32} {L2 : List (Nat × AV)} {St : List AV} {S : SS} : ev c 40 54 [l0, l1, l2, l3, l4, l5, l6, some (aI x)] L2 St S = ev c 40 56 [l0, l1, l2, l3, l4, l5, l6, some (aI x)] L2 (aI x :: St) S := ev_go i40_54 rfl
theorem i40_56 : insAt 40 56 = some (.iload_n 1, 1, (0, 0, 0, 0), 0) := rfl
theorem s40_56 {c : Nat → List AV → SS → Option Out} {l0 l2 l3 l4 l5 l6 l7 : Option AV} {x : Int32} {L2 : List (Nat × AV)} {St : List AV} {S : SS} : ev c 40 56 [l0, some (aI x), l2, l3, l4, l5, l6, l7] L2 St S = ev c 40 57 [l0, some (aI x), l2, l3, l4, l5, l6, l7] L2 (aI x :: St) S := ev_go i40_56 rfl
theorem i40_57 : insAt 40 57 = some (.iload_n 2, 1, (0, 0, 0, 0), 0) := rfl
theorem s40_57 {c : Nat → List AV → SS → Option Out} {l0 l1 l3 l4 l5 l6 l7 : Option AV} {x : Int32} {L2 : List (Nat × AV)} {St : List AV} {S : SS} : ev c 40 57 [l0, l1, some (aI x), l3, l4, l5, l6, l7] L2 St S = ev c 40 58 [l0, l1, some (aI x), l3, l4, l5, l6, l7] L2 (aI x :: St) S := ev_go i40_57 rfl
theorem i40_58 : insAt 40 58 = some (.invokevirtual 56, 3, (43, 4, 2, 9), 126) := rfl
theorem s40_58 {c : Nat → List AV → SS → Option Out} {l0 l1 l2 l3 l4 l5 l6 l7 : Option AV} {a0 : Int32} {a1 : Int32} {a2 : Int32} {a3 : Int32} {j t : Nat} {L2 : List (Nat × AV)} {S : SS} : ev c 40 58 [l0, l1, l2, l3, l4, l5, l6, l7] L2 [aI a3, aI a2, aI a1, aI a0, aR (9, j, t)] S = ck (c 43 [aR (9, j, t), aI a0, aI a1, aI a2, aI a3] S) (fun v S' => ev c 40 61 [l0, l1, l2, l3, l4, l5, l6, l7] L2 (v.toList ++ []) S') := ev_call i40_58 rfl
theorem i40_61 : insAt 40 61 = some (.aload_n 0, 1, (0, 0, 0, 0), 0) := rfl
theorem s40_61 {c : Nat → List AV → SS → Option Out} {l1 l2 l3 l4 l5 l6 l7 : Option AV} {o : OId} {L2 : List (Nat × AV)} {St : List AV} {S : SS} : ev c 40 61 [some (aR o), l1, l2, l3, l4, l5, l6, l7] L2 St S = ev c 40 62 [some (aR o), l1, l2, l3, l4, l5, l6, l7] L2 (aR o :: St) S := ev_go i40_61 rfl
theorem i40_62 : insAt 40 62 = some (.iload_n 1, 1, (0, 0, 0, 0), 0) := rfl
theorem s40_62 {c : Nat → List AV → SS → Option Out} {l0 l2 l3 l4 l5 l6 l7 : Option AV} {x : Int32} {L2 : List (Nat × AV)} {St : List AV} {S : SS} : ev c 40 62 [l0, some (aI x), l2, l3, l4, l5, l6, l7] L2 St S = ev c 40 63 [l0, some (aI x), l2, l3, l4, l5, l6, l7] L2 (aI x :: St) S := ev_go i40_62 rfl
theorem i40_63 : insAt 40 63 = some (.iconst 1, 1, (0, 0, 0, 0), 0) := rfl
theorem s40_63 {c : Nat → List AV → SS → Option Out} {l0 l1 l2 l3 l4 l5 l6 l7 : Option AV} {L2 : List (Nat × AV)} {St : List AV} {S : SS} : ev c 40 63 [l0, l1, l2, l3, l4, l5, l6, l7] L2 St S = ev c 40 64 [l0, l1, l2, l3, l4, l5, l6, l7] L2 (aI 1 :: St) S := ev_go i40_63 rfl
theorem i40_64 : insAt 40 64 = some (.iadd, 1, (0, 0, 0, 0), 0) := rfl
theorem s40_64 {c : Nat → List AV → SS → Option Out} {l0 l1 l2 l3 l4 l5 l6 l7 : Option AV} {x y : Int32} {L2 : List (Nat × AV)} {St : List AV} {S : SS} : ev c 40 64 [l0, l1, l2, l3, l4, l5, l6, l7] L2 (aI y :: aI x :: St) S = ev c 40 65 [l0, l1, l2, l3, l4, l5, l6, l7] L2 (aI (x + y) :: St) S := ev_go i40_64 rfl
theorem i40_65 : insAt 40 65 = some (.iload_n 2, 1, (0, 0, 0, 0), 0) := rfl
theorem s40_65 {c : Nat → List AV → SS → Option Out} {l0 l1 l3 l4 l5 l6 l7 : Option AV} {x : Int32} {L2 : List (Nat × AV)} {St : List AV} {S : SS} : ev c 40 65 [l0, l1, some (aI x), l3, l4, l5, l6, l7] L2 St S = ev c 40 66 [l0, l1, some (aI x), l3, l4, l5, l6, l7] L2 (aI x :: St) S := ev_go i40_65 rfl
theorem i40_66 : insAt 40 66 = some (.iconst 1, 1, (0, 0, 0, 0), 0) := rfl
theorem s40_66 {c : Nat → List AV → SS → Option Out} {l0 l1 l2 l3 l4 l5 l6 l7 : Option AV} {L2 : List (Nat × AV)} {St : List AV} {S : SS} : ev c 40 66 [l0, l1, l2, l3, l4, l5, l6, l7] L2 St S = ev c 40 67 [l0, l1, l2, l3, l4, l5, l6, l7] L2 (aI 1 :: St) S := ev_go i40_66 rfl
theorem i40_67 : insAt 40 67 = some (.iload 4, 2, (0, 0, 0, 0), 0) := rfl
theorem s40_67 {c : Nat → List AV → SS → Option Out} {l0 l1 l2 l3 l5 l6 l7 : Option AV} {x : Int32} {L2 : List (Nat × AV)} {St : List AV} {S : SS} : ev c 40 67 [l0, l1, l2, l3, some (aI x), l5, l6, l7] L2 St S = ev c 40 69 [l0, l1, l2, l3, some (aI x), l5, l6, l7] L2 (aI x :: St) S := ev_go i40_67 rfl
theorem i40_69 : insAt 40 69 = some (.ishl, 1, (0, 0, 0, 0), 0) := rfl
theorem s40_69 {c : Nat → List AV → SS → Option Out} {l0 l1 l2 l3 l4 l5 l6 l7 : Option AV} {x y : Int32} {L2 : List (Nat × AV)} {St : List AV} {S : SS} : ev c 40 69 [l0, l1, l2, l3, l4, l5, l6, l7] L2 (aI y :: aI x :: St) S = ev c 40 70 [l0, l1, l2, l3, l4, l5, l6, l7] L2 (aI (x <<< (y &&& 31)) :: St) S := ev_go i40_69 rfl
theorem i40_70 : insAt 40 70 = some (.ior, 1, (0, 0, 0, 0), 0) := rfl
theorem s40_70 {c : Nat → List AV → SS → Option Out} {l0 l1 l2 l3 l4 l5 l6 l7 : Option AV} {x y : Int32} {L2 : List (Nat × AV)} {St : List AV} {S : SS} : ev c 40 70 [l0, l1, l2, l3, l4, l5, l6, l7] L2 (aI y :: aI x :: St) S = ev c 40 71 [l0, l1, l2, l3, l4, l5, l6, l7] L2 (aI (x ||| y) :: St) S := ev_go i40_70 rfl
theorem i40_71 : insAt 40 71 = some (.iload_n 3, 1, (0, 0, 0, 0), 0) := rfl
theorem s40_71 {c : Nat → List AV → SS → Option Out} {l0 l1 l2 l4 l5 l6 l7 : Option AV} {x : Int32} {L2 : List (Nat × AV)} {St : List AV} {S : SS} : ev c 40 71 [l0, l1, l2, some (aI x), l4, l5, l6, l7] L2 St S = ev c 40 72 [l0, l1, l2, some (aI x), l4, l5, l6, l7] L2 (aI x :: St) S := ev_go i40_71 rfl
theorem i40_72 : insAt 40 72 = some (.invokestatic 26, 3, (40, 4, 0, 0), 118) := rfl
theorem s40_72 {c : Nat → List AV → SS → Option Out} {l0 l1 l2 l3 l4 l5 l6 l7 : Option AV} {a0 : OId} {a1 : Int32} {a2 : Int32} {a3 : Int32} {L2 : List (Nat × AV)} {S : SS} : ev c 40 72 [l0, l1, l2, l3, l4, l5, l6, l7] L2 [aI a3, aI a2, aI a1, aR a0] S = ck (c 40 [aR a0, aI a1, aI a2, aI a3] S) (fun v S' => ev c 40 75 [l0, l1, l2, l3, l4, l5, l6, l7] L2 (v.toList ++ []) S') := ev_call i40_72 rfl
theorem i40_75 : insAt 40 75 = some (.ifCond .eq 5, 3, (0, 0, 0, 0), 0) := rfl
theorem s40_75 {c : Nat → List AV → SS → Option Out} {l0 l1 l2 l3 l4 l5 l6 l7 : Option AV} {x : Int32} {L2 : List (Nat × AV)} {St : List AV} {S : SS} : ev c 40 75 [l0, l1, l2, l3, l4, l5, l6, l7] L2 (aI x :: St) S = if x = 0 then ev c 40 80 [l0, l1, l2, l3, l4, l5, l6, l7] L2 St S else ev c 40 78 [l0, l1, l2, l3, l4, l5, l6, l7] L2 St S := ev_br i40_75 rfl
theorem i40_78 : insAt 40 78 = some (.iconst 1, 1, (0, 0, 0, 0), 0) := rfl
theorem s40_78 {c : Nat → List AV → SS → Option Out} {l0 l1 l2 l3 l4 l5 l6 l7 : Option AV} {L2 : List (Nat × AV)} {St : List AV} {S : SS} : ev c 40 78 [l0, l1, l2, l3, l4, l5, l6, l7] L2 St S = ev c 40 79 [l0, l1, l2, l3, l4, l5, l6, l7] L2 (aI 1 :: St) S := ev_go i40_78 rfl
theorem i40_79 : insAt 40 79 = some (.ireturn, 1, (0, 0, 0, 0), 0) := rfl
theorem s40_79 {c : Nat → List AV → SS → Option Out} {l0 l1 l2 l3 l4 l5 l6 l7 : Option AV} {x : Int32} {L2 : List (Nat × AV)} {S : SS} : ev c 40 79 [l0, l1, l2, l3, l4, l5, l6, l7] L2 [aI x] S = if x = 0 ∨ x = 1 then some (.inl (some (aI x)), S) else none := ev_rt i40_79 rfl
theorem i40_80 : insAt 40 80 = some (.iinc 7 1, 3, (0, 0, 0, 0), 0) := rfl
theorem s40_80 {c : Nat → List AV → SS → Option Out} {l0 l1 l2 l3 l4 l5 l6 : Option AV} {x : Int32} {L2 : List (Nat × AV)} {St : List AV} {S : SS} : ev c 40 80 [l0, l1, l2, l3, l4, l5, l6, some (aI x)] L2 St S = ev c 40 83 [l0, l1, l2, l3, l4, l5, l6, some (aI (x + 1))] (kil L2 7) St S := ev_go i40_80 rfl
theorem i40_83 : insAt 40 83 = some (.goto (-48), 3, (0, 0, 0, 0), 0) := rfl
theorem s40_83 {c : Nat → List AV → SS → Option Out} {l0 l1 l2 l3 l4 l5 l6 l7 : Option AV} {L2 : List (Nat × AV)} {St : List AV} {S : SS} : ev c 40 83 [l0, l1, l2, l3, l4, l5, l6, l7] L2 St S = ev c 40 35 [l0, l1, l2, l3, l4, l5, l6, l7] L2 St S := ev_go i40_83 rfl
theorem i40_86 : insAt 40 86 = some (.iconst 0, 1, (0, 0, 0, 0), 0) := rfl
theorem s40_86 {c : Nat → List AV → SS → Option Out} {l0 l1 l2 l3 l4 l5 l6 l7 : Option AV} {L2 : List (Nat × AV)} {St : List AV} {S : SS} : ev c 40 86 [l0, l1, l2, l3, l4, l5, l6, l7] L2 St S = ev c 40 87 [l0, l1, l2, l3, l4, l5, l6, l7] L2 (aI 0 :: St) S := ev_go i40_86 rfl
theorem i40_87 : insAt 40 87 = some (.ireturn, 1, (0, 0, 0, 0), 0) := rfl
theorem s40_87 {c : Nat → List AV → SS → Option Out} {l0 l1 l2 l3 l4 l5 l6 l7 : Option AV} {x : Int32} {L2 : List (Nat × AV)} {S : SS} : ev c 40 87 [l0, l1, l2, l3, l4, l5, l6, l7] L2 [aI x] S = if x = 0 ∨ x = 1 then some (.inl (some (aI x)), S) else none := ev_rt i40_87 rfl
theorem m40 {d : Nat} {a0 : OId} {a1 : Int32} {a2 : Int32} {a3 : Int32} {S : SS} : evm (d + 1) 40 [aR a0, aI a1, aI a2, aI a3] S = ev (evm d) 40 0 [some (aR a0), some (aI a1), some (aI a2), some (aI a3), none, none, none, none] [] [] S := evm_s (n := 8) rfl (Nat.le_of_ble_eq_true rfl) rfl rfl
/-! FrequencyOffice$Spans.shutTo(II)J -/
theorem i41_0 : insAt 41 0 = some (.iload_n 1, 1, (0, 0, 0, 0), 0) := rfl
theorem s41_0 {c : Nat → List AV → SS → Option Out} {l0 l2 l3 : Option AV} {x : Int32} {L2 : List (Nat × AV)} {St : List AV} {S : SS} : ev c 41 0 [l0, some (aI x), l2, l3] L2 St S = ev c 41 1 [l0, some (aI x), l2, l3] L2 (aI x :: St) S := ev_go i41_0 rfl
theorem i41_1 : insAt 41 1 = some (.iload_n 2, 1, (0, 0, 0, 0), 0) := rfl
theorem s41_1 {c : Nat → List AV → SS → Option Out} {l0 l1 l3 : Option AV} {x : Int32} {L2 : List (Nat × AV)} {St : List AV} {S : SS} : ev c 41 1 [l0, l1, some (aI x), l3] L2 St S = ev c 41 2 [l0, l1, some (aI x), l3] L2 (aI x :: St) S := ev_go i41_1 rfl
theorem i41_2 : insAt 41 2 = some (.invokestatic 94, 3, (30, 2, 1, 0), 127) := rfl
theorem s41_2 {c : Nat → List AV → SS → Option Out} {l0 l1 l2 l3 : Option AV} {a0 : Int32} {a1 : Int32} {L2 : List (Nat × AV)} {S : SS} : ev c 41 2 [l0, l1, l2, l3] L2 [aI a1, aI a0] S = ck (c 30 [aI a0, aI a1] S) (fun v S' => ev c 41 5 [l0, l1, l2, l3] L2 (v.toList ++ []) S') := ev_call i41_2 rfl
theorem i41_5 : insAt 41 5 = some (.istore_n 3, 1, (0, 0, 0, 0), 0) := rfl
theorem s41_5 {c : Nat → List AV → SS → Option Out} {l0 l1 l2 l3 : Option AV} {x : Int32} {L2 : List (Nat × AV)} {St : List AV} {S : SS} : ev c 41 5 [l0, l1, l2, l3] L2 (aI x :: St) S = ev c 41 6 [l0, l1, l2, some (aI x)] (kil L2 3) St S := ev_go i41_5 rfl
theorem i41_6 : insAt 41 6 = some (.iload_n 3, 1, (0, 0, 0, 0), 0) := rfl
theorem s41_6 {c : Nat → List AV → SS → Option Out} {l0 l1 l2 : Option AV} {x : Int32} {L2 : List (Nat × AV)} {St : List AV} {S : SS} : ev c 41 6 [l0, l1, l2, some (aI x)] L2 St S = ev c 41 7 [l0, l1, l2, some (aI x)] L2 (aI x :: St) S := ev_go i41_6 rfl
theorem i41_7 : insAt 41 7 = some (.ifCond .lt 21, 3, (0, 0, 0, 0), 0) := rfl
theorem s41_7 {c : Nat → List AV → SS → Option Out} {l0 l1 l2 l3 : Option AV} {x : Int32} {L2 : List (Nat × AV)} {St : List AV} {S : SS} : ev c 41 7 [l0, l1, l2, l3] L2 (aI x :: St) S = if x < 0 then ev c 41 28 [l0, l1, l2, l3] L2 St S else ev c 41 10 [l0, l1, l2, l3] L2 St S := ev_br i41_7 rfl
theorem i41_10 : insAt 41 10 = some (.iload_n 3, 1, (0, 0, 0, 0), 0) := rfl
theorem s41_10 {c : Nat → List AV → SS → Option Out} {l0 l1 l2 : Option AV} {x : Int32} {L2 : List (Nat × AV)} {St : List AV} {S : SS} : ev c 41 10 [l0, l1, l2, some (aI x)] L2 St S = ev c 41 11 [l0, l1, l2, some (aI x)] L2 (aI x :: St) S := ev_go i41_10 rfl
theorem i41_11 : insAt 41 11 = some (.aload_n 0, 1, (0, 0, 0, 0), 0) := rfl
theorem s41_11 {c : Nat → List AV → SS → Option Out} {l1 l2 l3 : Option AV} {o : OId} {L2 : List (Nat × AV)} {St : List AV} {S : SS} : ev c 41 11 [some (aR o), l1, l2, l3] L2 St S = ev c 41 12 [some (aR o), l1, l2, l3] L2 (aR o :: St) S := ev_go i41_11 rfl
theorem i41_12 : insAt 41 12 = some (.getfield 15, 3, (9, 2, 0, 0), 68) := rfl
theorem s41_12 {c : Nat → List AV → SS → Option Out} {l0 l1 l2 l3 : Option AV} {j t : Nat} {L2 : List (Nat × AV)} {St : List AV} {S : SS} : ev c 41 12 [l0, l1, l2, l3] L2 (aR (9, j, t) :: St) S = ev c 41 15 [l0, l1, l2, l3] L2 (S.2.2.1 (9, j, t) 2 :: St) S := ev_go i41_12 rfl
theorem i41_15 : insAt 41 15 = some (.arraylength, 1, (0, 0, 0, 0), 0) := rfl
theorem s41_15 {c : Nat → List AV → SS → Option Out} {l0 l1 l2 l3 : Option AV} {o : OId} {L2 : List (Nat × AV)} {St : List AV} {S : SS} : ev c 41 15 [l0, l1, l2, l3] L2 (aR o :: St) S = kN o (fun x => ev c 41 16 [l0, l1, l2, l3] L2 (aI x :: St) S) := ev_alen i41_15
theorem i41_16 : insAt 41 16 = some (.if_icmp .ge 12, 3, (0, 0, 0, 0), 0) := rfl
theorem s41_16 {c : Nat → List AV → SS → Option Out} {l0 l1 l2 l3 : Option AV} {x y : Int32} {L2 : List (Nat × AV)} {St : List AV} {S : SS} : ev c 41 16 [l0, l1, l2, l3] L2 (aI y :: aI x :: St) S = if y ≤ x then ev c 41 28 [l0, l1, l2, l3] L2 St S else ev c 41 19 [l0, l1, l2, l3] L2 St S := ev_br i41_16 rfl
theorem i41_19 : insAt 41 19 = some (.aload_n 0, 1, (0, 0, 0, 0), 0) := rfl
theorem s41_19 {c : Nat → List AV → SS → Option Out} {l1 l2 l3 : Option AV} {o : OId} {L2 : List (Nat × AV)} {St : List AV} {S : SS} : ev c 41 19 [some (aR o), l1, l2, l3] L2 St S = ev c 41 20 [some (aR o), l1, l2, l3] L2 (aR o :: St) S := ev_go i41_19 rfl
theorem i41_20 : insAt 41 20 = some (.getfield 15, 3, (9, 2, 0, 0), 68) := rfl
theorem s41_20 {c : Nat → List AV → SS → Option Out} {l0 l1 l2 l3 : Option AV} {j t : Nat} {L2 : List (Nat × AV)} {St : List AV} {S : SS} : ev c 41 20 [l0, l1, l2, l3] L2 (aR (9, j, t) :: St) S = ev c 41 23 [l0, l1, l2, l3] L2 (S.2.2.1 (9, j, t) 2 :: St) S := ev_go i41_20 rfl
theorem i41_23 : insAt 41 23 = some (.iload_n 3, 1, (0, 0, 0, 0), 0) := rfl
theorem s41_23 {c : Nat → List AV → SS → Option Out} {l0 l1 l2 : Option AV} {x : Int32} {L2 : List (Nat × AV)} {St : List AV} {S : SS} : ev c 41 23 [l0, l1, l2, some (aI x)] L2 St S = ev c 41 24 [l0, l1, l2, some (aI x)] L2 (aI x :: St) S := ev_go i41_23 rfl
theorem i41_24 : insAt 41 24 = some (.laload, 1, (0, 0, 0, 0), 0) := rfl
theorem s41_24 {c : Nat → List AV → SS → Option Out} {l0 l1 l2 l3 : Option AV} {i : Int32} {o : OId} {L2 : List (Nat × AV)} {St : List AV} {S : SS} : ev c 41 24 [l0, l1, l2, l3] L2 (aI i :: aR o :: St) S = kJ o i (ev c 41 25 [l0, l1, l2, l3] L2 (aL (toL (S.2.1 o i.toNatClampNeg)) :: St) S) := ev_laload i41_24
theorem i41_25 : insAt 41 25 = some (.goto 4, 3, (0, 0, 0, 0), 0) := rfl
theorem s41_25 {c : Nat → List AV → SS → Option Out} {l0 l1 l2 l3 : Option AV} {L2 : List (Nat × AV)} {St : List AV} {S : SS} : ev c 41 25 [l0, l1, l2, l3] L2 St S = ev c 41 29 [l0, l1, l2, l3] L2 St S := ev_go i41_25 rfl
theorem i41_28 : insAt 41 28 = some (.lconst 0, 1, (0, 0, 0, 0), 0) := rfl
theorem s41_28 {c : Nat → List AV → SS → Option Out} {l0 l1 l2 l3 : Option AV} {L2 : List (Nat × AV)} {St : List AV} {S : SS} : ev c 41 28 [l0, l1, l2, l3] L2 St S = ev c 41 29 [l0, l1, l2, l3] L2 (aL 0 :: St) S := ev_go i41_28 rfl
theorem i41_29 : insAt 41 29 = some (.lreturn, 1, (0, 0, 0, 0), 0) := rfl
theorem s41_29 {c : Nat → List AV → SS → Option Out} {l0 l1 l2 l3 : Option AV} {x : Int64} {L2 : List (Nat × AV)} {S : SS} : ev c 41 29 [l0, l1, l2, l3] L2 [aL x] S = some (.inl (some (aL x)), S) := ev_end i41_29 rfl
theorem m41 {d : Nat} {o : OId} {a0 : Int32} {a1 : Int32} {S : SS} : evm (d + 1) 41 [aR o, aI a0, aI a1] S = ev (evm d) 41 0 [some (aR o), some (aI a0), some (aI a1), none] [] [] S := evm_s (n := 4) rfl (Nat.le_of_ble_eq_true rfl) rfl rfl
/-! FrequencyOffice$Spans.place(IIII)V -/
theorem i43_0 : insAt 43 0 = some (.iconst 0, 1, (0, 0, 0, 0), 0) := rfl
theorem s43_0 {c : Nat → List AV → SS → Option Out} {l0 l1 l2 l3 l4 l5 l6 l7 : Option AV} {L2 : List (Nat × AV)} {St : List AV} {S : SS} : ev c 43 0 [l0, l1, l2, l3, l4, l5, l6, l7] L2 St S = ev c 43 1 [l0, l1, l2, l3, l4, l5, l6, l7] L2 (aI 0 :: St) S := ev_go i43_0 rfl
theorem i43_1 : insAt 43 1 = some (.istore 5, 2, (0, 0, 0, 0), 0) := rfl
theorem s43_1 {c : Nat → List AV → SS → Option Out} {l0 l1 l2 l3 l4 l5 l6 l7 : Option AV} {x : Int32} {L2 : List (Nat × AV)} {St : List AV} {S : SS} : ev c 43 1 [l0, l1, l2, l3, l4, l5, l6, l7] L2 (aI x :: St) S = ev c 43 3 [l0, l1, l2, l3, l4, some (aI x), l6, l7] (kil L2 5) St S := ev_go i43_1 rfl
theorem i43_3 : insAt 43 3 = some (.iload 5, 2, (0, 0, 0, 0), 0) := rfl
theorem s43_3 {c : Nat → List AV → SS → Option Out} {l0 l1 l2 l3 l4 l6 l7 : Option AV} {x : Int32} {L2 : List (Nat × AV)} {St : List AV} {S : SS} : ev c 43 3 [l0, l1, l2, l3, l4, some (aI x), l6, l7] L2 St S = ev c 43 5 [l0, l1, l2, l3, l4, some (aI x), l6, l7] L2 (aI x :: St) S := ev_go i43_3 rfl
theorem i43_5 : insAt 43 5 = some (.aload_n 0, 1, (0, 0, 0, 0), 0) := rfl
theorem s43_5 {c : Nat → List AV → SS → Option Out} {l1 l2 l3 l4 l5 l6 l7 : Option AV} {o : OId} {L2 : List (Nat × AV)} {St : List AV} {S : SS} : ev c 43 5 [some (aR o), l1, l2, l3, l4, l5, l6, l7] L2 St S = ev c 43 6 [some (aR o), l1, l2, l3, l4, l5, l6, l7] L2 (aR o :: St) S := ev_go i43_5 rfl
theorem i43_6 : insAt 43 6 = some (.getfield 19, 3, (9, 0, 0, 0), 69) := rfl
theorem s43_6 {c : Nat → List AV → SS → Option Out} {l0 l1 l2 l3 l4 l5 l6 l7 : Option AV} {j t : Nat} {L2 : List (Nat × AV)} {St : List AV} {S : SS} : ev c 43 6 [l0, l1, l2, l3, l4, l5, l6, l7] L2 (aR (9, j, t) :: St) S = ev c 43 9 [l0, l1, l2, l3, l4, l5, l6, l7] L2 (S.2.2.1 (9, j, t) 0 :: St) S := ev_go i43_6 rfl
theorem i43_9 : insAt 43 9 = some (.getfield 30, 3, (6, 0, 1, 0), 119) := rfl
theorem s43_9 {c : Nat → List AV → SS → Option Out} {l0 l1 l2 l3 l4 l5 l6 l7 : Option AV} {j t : Nat} {L2 : List (Nat × AV)} {St : List AV} {S : SS} : ev c 43 9 [l0, l1, l2, l3, l4, l5, l6, l7] L2 (aR (6, j, t) :: St) S = ev c 43 12 [l0, l1, l2, l3, l4, l5, l6, l7] L2 (aI (S.1 (6, j, t) 0) :: St) S := ev_go i43_9 rfl
theorem i43_12 : insAt 43 12 = some (.if_icmp .ge 61, 3, (0, 0, 0, 0), 0) := rfl
theorem s43_12 {c : Nat → List AV → SS → Option Out} {l0 l1 l2 l3 l4 l5 l6 l7 : Option AV} {x y : Int32} {L2 : List (Nat × AV)} {St : List AV} {S : SS} : ev c 43 12 [l0, l1, l2, l3, l4, l5, l6, l7] L2 (aI y :: aI x :: St) S = if y ≤ x then ev c 43 73 [l0, l1, l2, l3, l4, l5, l6, l7] L2 St S else ev c 43 15 [l0, l1, l2, l3, l4, l5, l6, l7] L2 St S := ev_br i43_12 rfl
theorem i43_15 : insAt 43 15 = some (.iload 5, 2, (0, 0, 0, 0), 0) := rfl
theorem s43_15 {c : Nat → List AV → SS → Option Out} {l0 l1 l2 l3 l4 l6 l7 : Option AV} {x : Int32} {L2 : List (Nat × AV)} {St : List AV} {S : SS} : ev c 43 15 [l0, l1, l2, l3, l4, some (aI x), l6, l7] L2 St S = ev c 43 17 [l0, l1, l2, l3, l4, some (aI x), l6, l7] L2 (aI x :: St) S := ev_go i43_15 rfl
theorem i43_17 : insAt 43 17 = some (.iload_n 1, 1, (0, 0, 0, 0), 0) := rfl
theorem s43_17 {c : Nat → List AV → SS → Option Out} {l0 l2 l3 l4 l5 l6 l7 : Option AV} {x : Int32} {L2 : List (Nat × AV)} {St : List AV} {S : SS} : ev c 43 17 [l0, some (aI x), l2, l3, l4, l5, l6, l7] L2 St S = ev c 43 18 [l0, some (aI x), l2, l3, l4, l5, l6, l7] L2 (aI x :: St) S := ev_go i43_17 rfl
theorem i43_18 : insAt 43 18 = some (.if_icmp .eq 49, 3, (0, 0, 0, 0), 0) := rfl
theorem s43_18 {c : Nat → List AV → SS → Option Out} {l0 l1 l2 l3 l4 l5 l6 l7 : Option AV} {x y : Int32} {L2 : List (Nat × AV)} {St : List AV} {S : SS} : ev c 43 18 [l0, l1, l2, l3, l4, l5, l6, l7] L2 (aI y :: aI x :: St) S = if x = y then ev c 43 67 [l0, l1, l2, l3, l4, l5, l6, l7] L2 St S else ev c 43 21 [l0, l1, l2, l3, l4, l5, l6, l7] L2 St S := ev_br i43_18 rfl
theorem i43_21 : insAt 43 21 = some (.iload 4, 2, (0, 0, 0, 0), 0) := rfl
theorem s43_21 {c : Nat → List AV → SS → Option Out} {l0 l1 l2 l3 l5 l6 l7 : Option AV} {x : Int32} {L2 : List (Nat × AV)} {St : List AV} {S : SS} : ev c 43 21 [l0, l1, l2, l3, some (aI x), l5, l6, l7] L2 St S = ev c 43 23 [l0, l1, l2, l3, some (aI x), l5, l6, l7] L2 (aI x :: St) S := ev_go i43_21 rfl
theorem i43_23 : insAt 43 23 = some (.i2l, 1, (0, 0, 0, 0), 0) := rfl
theorem s43_23 {c : Nat → List AV → SS → Option Out} {l0 l1 l2 l3 l4 l5 l6 l7 : Option AV} {x : Int32} {L2 : List (Nat × AV)} {St : List AV} {S : SS} : ev c 43 23 [l0, l1, l2, l3, l4, l5, l6, l7] L2 (aI x :: St) S = ev c 43 24 [l0, l1, l2, l3, l4, l5, l6, l7] L2 (aL x.toInt64 :: St) S := ev_go i43_23 rfl
theorem i43_24 : insAt 43 24 = some (.iload 5, 2, (0, 0, 0, 0), 0) := rfl
theorem s43_24 {c : Nat → List AV → SS → Option Out} {l0 l1 l2 l3 l4 l6 l7 : Option AV} {x : Int32} {L2 : List (Nat × AV)} {St : List AV} {S : SS} : ev c 43 24 [l0, l1, l2, l3, l4, some (aI x), l6, l7] L2 St S = ev c 43 26 [l0, l1, l2, l3, l4, some (aI x), l6, l7] L2 (aI x :: St) S := ev_go i43_24 rfl
theorem i43_26 : insAt 43 26 = some (.invokestatic 52, 3, (42, 2, 1, 0), 125) := rfl
theorem s43_26 {c : Nat → List AV → SS → Option Out} {l0 l1 l2 l3 l4 l5 l6 l7 : Option AV} {a0 : Int64} {a1 : Int32} {L2 : List (Nat × AV)} {S : SS} : ev c 43 26 [l0, l1, l2, l3, l4, l5, l6, l7] L2 [aI a1, aL a0] S = ck (c 42 [aL a0, aI a1] S) (fun v S' => ev c 43 29 [l0, l1, l2, l3, l4, l5, l6, l7] L2 (v.toList ++ []) S') := ev_call i43_26 rfl
theorem i43_29 : insAt 43 29 = some (.ifCond .ne 38, 3, (0, 0, 0, 0), 0) := rfl
theorem s43_29 {c : Nat → List AV → SS → Option Out} {l0 l1 l2 l3 l4 l5 l6 l7 : Option AV} {x : Int32} {L2 : List (Nat × AV)} {St : List AV} {S : SS} : ev c 43 29 [l0, l1, l2, l3, l4, l5, l6, l7] L2 (aI x :: St) S = if x = 0 then ev c 43 32 [l0, l1, l2, l3, l4, l5, l6, l7] L2 St S else ev c 43 67 [l0, l1, l2, l3, l4, l5, l6, l7] L2 St S := (ev_br i43_29 rfl).trans (ite_not _ _ _)
theorem i43_32 : insAt 43 32 = some (.aload_n 0, 1, (0, 0, 0, 0), 0) := rfl
theorem s43_32 {c : Nat → List AV → SS → Option Out} {l1 l2 l3 l4 l5 l6 l7 : Option AV} {o : OId} {L2 : List (Nat × AV)} {St : List AV} {S : SS} : ev c 43 32 [some (aR o), l1, l2, l3, l4, l5, l6, l7] L2 St S = ev c 43 33 [some (aR o), l1, l2, l3, l4, l5, l6, l7] L2 (aR o :: St) S := ev_go i43_32 rfl
theorem i43_33 : insAt 43 33 = some (.iload_n 3, 1, (0, 0, 0, 0), 0) := rfl
theorem s43_33 {c : Nat → List AV → SS → Option Out} {l0 l1 l2 l4 l5 l6 l7 : Option AV} {x : Int32} {L2 : List (Nat × AV)} {St : List AV} {S : SS} : ev c 43 33 [l0, l1, l2, some (aI x), l4, l5, l6, l7] L2 St S = ev c 43 34 [l0, l1, l2, some (aI x), l4, l5, l6, l7] L2 (aI x :: St) S := ev_go i43_33 rfl
theorem i43_34 : insAt 43 34 = some (.iload 5, 2, (0, 0, 0, 0), 0) := rfl
theorem s43_34 {c : Nat → List AV → SS → Option Out} {l0 l1 l2 l3 l4 l6 l7 : Option AV} {x : Int32} {L2 : List (Nat × AV)} {St : List AV} {S : SS} : ev c 43 34 [l0, l1, l2, l3, l4, some (aI x), l6, l7] L2 St S = ev c 43 36 [l0, l1, l2, l3, l4, some (aI x), l6, l7] L2 (aI x :: St) S := ev_go i43_34 rfl
theorem i43_36 : insAt 43 36 = some (.invokevirtual 48, 3, (41, 2, 2, 9), 124) := rfl
theorem s43_36 {c : Nat → List AV → SS → Option Out} {l0 l1 l2 l3 l4 l5 l6 l7 : Option AV} {a0 : Int32} {a1 : Int32} {j t : Nat} {L2 : List (Nat × AV)} {S : SS} : ev c 43 36 [l0, l1, l2, l3, l4, l5, l6, l7] L2 [aI a1, aI a0, aR (9, j, t)] S = ck (c 41 [aR (9, j, t), aI a0, aI a1] S) (fun v S' => ev c 43 39 [l0, l1, l2, l3, l4, l5, l6, l7] L2 (v.toList ++ []) S') := ev_call i43_36 rfl
theorem i43_39 : insAt 43 39 = some (.iload_n 2, 1, (0, 0, 0, 0), 0) := rfl
theorem s43_39 {c : Nat → List AV → SS → Option Out} {l0 l1 l3 l4 l5 l6 l7 : Option AV} {x : Int32} {L2 : List (Nat × AV)} {St : List AV} {S : SS} : ev c 43 39 [l0, l1, some (aI x), l3, l4, l5, l6, l7] L2 St S = ev c 43 40 [l0, l1, some (aI x), l3, l4, l5, l6, l7] L2 (aI x :: St) S := ev_go i43_39 rfl
theorem i43_40 : insAt 43 40 = some (.aload_n 0, 1, (0, 0, 0, 0), 0) := rfl
theorem s43_40 {c : Nat → List AV → SS → Option Out} {l1 l2 l3 l4 l5 l6 l7 : Option AV} {o : OId} {L2 : List (Nat × AV)} {St : List AV} {S : SS} : ev c 43 40 [some (aR o), l1, l2, l3, l4, l5, l6, l7] L2 St S = ev c 43 41 [some (aR o), l1, l2, l3, l4, l5, l6, l7] L2 (aR o :: St) S := ev_go i43_40 rfl
theorem i43_41 : insAt 43 41 = some (.getfield 19, 3, (9, 0, 0, 0), 69) := rfl
theorem s43_41 {c : Nat → List AV → SS → Option Out} {l0 l1 l2 l3 l4 l5 l6 l7 : Option AV} {j t : Nat} {L2 : List (Nat × AV)} {St : List AV} {S : SS} : ev c 43 41 [l0, l1, l2, l3, l4, l5, l6, l7] L2 (aR (9, j, t) :: St) S = ev c 43 44 [l0, l1, l2, l3, l4, l5, l6, l7] L2 (S.2.2.1 (9, j, t) 0 :: St) S := ev_go i43_41 rfl
theorem i43_44 : insAt 43 44 = some (.iload_n 1, 1, (0, 0, 0, 0), 0) := rfl
theorem s43_44 {c : Nat → List AV → SS → Option Out} {l0 l2 l3 l4 l5 l6 l7 : Option AV} {x : Int32} {L2 : List (Nat × AV)} {St : List AV} {S : SS} : ev c 43 44 [l0, some (aI x), l2, l3, l4, l5, l6, l7] L2 St S = ev c 43 45 [l0, some (aI x), l2, l3, l4, l5, l6, l7] L2 (aI x :: St) S := ev_go i43_44 rfl
theorem i43_45 : insAt 43 45 = some (.iload 5, 2, (0, 0, 0, 0), 0) := rfl
theorem s43_45 {c : Nat → List AV → SS → Option Out} {l0 l1 l2 l3 l4 l6 l7 : Option AV} {x : Int32} {L2 : List (Nat × AV)} {St : List AV} {S : SS} : ev c 43 45 [l0, l1, l2, l3, l4, some (aI x), l6, l7] L2 St S = ev c 43 47 [l0, l1, l2, l3, l4, some (aI x), l6, l7] L2 (aI x :: St) S := ev_go i43_45 rfl
theorem i43_47 : insAt 43 47 = some (.invokevirtual 84, 3, (39, 2, 3, 6), 128) := rfl
theorem s43_47 {c : Nat → List AV → SS → Option Out} {l0 l1 l2 l3 l4 l5 l6 l7 : Option AV} {t0 t1 : AV} {a0 : Int32} {a1 : Int32} {j t : Nat} {L2 : List (Nat × AV)} {S : SS} : ev c 43 47 [l0, l1, l2, l3, l4, l5, l6, l7] L2 [aI a1, aI a0, aR (6, j, t), t0, t1] S = ck (c 39 [aR (6, j, t), aI a0, aI a1] S) (fun v S' => ev c 43 50 [l0, l1, l2, l3, l4, l5, l6, l7] L2 (v.toList ++ [t0, t1]) S') := ev_call i43_47 rfl
theorem i43_50 : insAt 43 50 = some (.invokestatic 87, 3, (44, 2, 1, 0), 129) := rfl
theorem s43_50 {c : Nat → List AV → SS → Option Out} {l0 l1 l2 l3 l4 l5 l6 l7 : Option AV} {t0 : AV} {a0 : Int32} {a1 : Int32} {L2 : List (Nat × AV)} {S : SS} : ev c 43 50 [l0, l1, l2, l3, l4, l5, l6, l7] L2 [aI a1, aI a0, t0] S = ck (c 44 [aI a0, aI a1] S) (fun v S' => ev c 43 53 [l0, l1, l2, l3, l4, l5, l6, l7] L2 (v.toList ++ [t0]) S') := ev_call i43_50 rfl
theorem i43_53 : insAt 43 53 = some (.lor, 1, (0, 0, 0, 0), 0) := rfl
theorem s43_53 {c : Nat → List AV → SS → Option Out} {l0 l1 l2 l3 l4 l5 l6 l7 : Option AV} {x y : Int64} {L2 : List (Nat × AV)} {St : List AV} {S : SS} : ev c 43 53 [l0, l1, l2, l3, l4, l5, l6, l7] L2 (aL y :: aL x :: St) S = ev c 43 54 [l0, l1, l2, l3, l4, l5, l6, l7] L2 (aL (x ||| y) :: St) S := ev_go i43_53 rfl
theorem i43_54 : insAt 43 54 = some (.lstore 6, 2, (0, 0, 0, 0), 0) := rfl
theorem s43_54 {c : Nat → List AV → SS → Option Out} {l0 l1 l2 l3 l4 l5 l6 l7 : Option AV} {x : Int64} {L2 : List (Nat × AV)} {St : List AV} {S : SS} : ev c 43 54 [l0, l1, l2, l3, l4, l5, l6, l7] L2 (aL x :: St) S = ev c 43 56 [l0, l1, l2, l3, l4, l5, none, none] ((6, aL x) :: kil2 L2 6) St S := ev_go i43_54 rfl
theorem i43_56 : insAt 43 56 = some (.aload_n 0, 1, (0, 0, 0, 0), 0) := rfl
theorem s43_56 {c : Nat → List AV → SS → Option Out} {l1 l2 l3 l4 l5 l6 l7 : Option AV} {o : OId} {L2 : List (Nat × AV)} {St : List AV} {S : SS} : ev c 43 56 [some (aR o), l1, l2, l3, l4, l5, l6, l7] L2 St S = ev c 43 57 [some (aR o), l1, l2, l3, l4, l5, l6, l7] L2 (aR o :: St) S := ev_go i43_56 rfl
theorem i43_57 : insAt 43 57 = some (.iload_n 3, 1, (0, 0, 0, 0), 0) := rfl
theorem s43_57 {c : Nat → List AV → SS → Option Out} {l0 l1 l2 l4 l5 l6 l7 : Option AV} {x : Int32} {L2 : List (Nat × AV)} {St : List AV} {S : SS} : ev c 43 57 [l0, l1, l2, some (aI x), l4, l5, l6, l7] L2 St S = ev c 43 58 [l0, l1, l2, some (aI x), l4, l5, l6, l7] L2 (aI x :: St) S := ev_go i43_57 rfl
theorem i43_58 : insAt 43 58 = some (.iconst 1, 1, (0, 0, 0, 0), 0) := rfl
theorem s43_58 {c : Nat → List AV → SS → Option Out} {l0 l1 l2 l3 l4 l5 l6 l7 : Option AV} {L2 : List (Nat × AV)} {St : List AV} {S : SS} : ev c 43 58 [l0, l1, l2, l3, l4, l5, l6, l7] L2 St S = ev c 43 59 [l0, l1, l2, l3, l4, l5, l6, l7] L2 (aI 1 :: St) S := ev_go i43_58 rfl
theorem i43_59 : insAt 43 59 = some (.iadd, 1, (0, 0, 0, 0), 0) := rfl
theorem s43_59 {c : Nat → List AV → SS → Option Out} {l0 l1 l2 l3 l4 l5 l6 l7 : Option AV} {x y : Int32} {L2 : List (Nat × AV)} {St : List AV} {S : SS} : ev c 43 59 [l0, l1, l2, l3, l4, l5, l6, l7] L2 (aI y :: aI x :: St) S = ev c 43 60 [l0, l1, l2, l3, l4, l5, l6, l7] L2 (aI (x + y) :: St) S := ev_go i43_59 rfl
theorem i43_60 : insAt 43 60 = some (.iload 5, 2, (0, 0, 0, 0), 0) := rfl
theorem s43_60 {c : Nat → List AV → SS → Option Out} {l0 l1 l2 l3 l4 l6 l7 : Option AV} {x : Int32} {L2 : List (Nat × AV)} {St : List AV} {S : SS} : ev c 43 60 [l0, l1, l2, l3, l4, some (aI x), l6, l7] L2 St S = ev c 43 62 [l0, l1, l2, l3, l4, some (aI x), l6, l7] L2 (aI x :: St) S := ev_go i43_60 rfl
theorem i43_62 : insAt 43 62 = some (.lload 6, 2, (0, 0, 0, 0), 0) := rfl
theorem s43_62 {c : Nat → List AV → SS → Option Out} {l0 l1 l2 l3 l4 l5 l6 l7 : Option AV} {x : Int64} {L2 : List (Nat × AV)} {St : List AV} {S : SS} (h : ldL L2 6 = some x) : ev c 43 62 [l0, l1, l2, l3, l4, l5, l6, l7] L2 St S = ev c 43 64 [l0, l1, l2, l3, l4, l5, l6, l7] L2 (aL x :: St) S := ev_go i43_62 (by simp only [stepI]; exact (congrArg (fun q => match q with | some x => nx (62 + 2) [l0, l1, l2, l3, l4, l5, l6, l7] L2 (aL x :: St) S | none => none) h))
theorem i43_64 : insAt 43 64 = some (.invokevirtual 90, 3, (45, 3, 2, 9), 130) := rfl
theorem s43_64 {c : Nat → List AV → SS → Option Out} {l0 l1 l2 l3 l4 l5 l6 l7 : Option AV} {a0 : Int32} {a1 : Int32} {a2 : Int64} {j t : Nat} {L2 : List (Nat × AV)} {S : SS} : ev c 43 64 [l0, l1, l2, l3, l4, l5, l6, l7] L2 [aL a2, aI a1, aI a0, aR (9, j, t)] S = ck (c 45 [aR (9, j, t), aI a0, aI a1, aL a2] S) (fun v S' => ev c 43 67 [l0, l1, l2, l3, l4, l5, l6, l7] L2 (v.toList ++ []) S') := ev_call i43_64 rfl
theorem i43_67 : insAt 43 67 = some (.iinc 5 1, 3, (0, 0, 0, 0), 0) := rfl
theorem s43_67 {c : Nat → List AV → SS → Option Out} {l0 l1 l2 l3 l4 l6 l7 : Option AV} {x : Int32} {L2 : List (Nat × AV)} {St : List AV} {S : SS} : ev c 43 67 [l0, l1, l2, l3, l4, some (aI x), l6, l7] L2 St S = ev c 43 70 [l0, l1, l2, l3, l4, some (aI (x + 1)), l6, l7] (kil L2 5) St S := ev_go i43_67 rfl
theorem i43_70 : insAt 43 70 = some (.goto (-67), 3, (0, 0, 0, 0), 0) := rfl
theorem s43_70 {c : Nat → List AV → SS → Option Out} {l0 l1 l2 l3 l4 l5 l6 l7 : Option AV} {L2 : List (Nat × AV)} {St : List AV} {S : SS} : ev c 43 70 [l0, l1, l2, l3, l4, l5, l6, l7] L2 St S = ev c 43 3 [l0, l1, l2, l3, l4, l5, l6, l7] L2 St S := ev_go i43_70 rfl
theorem i43_73 : insAt 43 73 = some (.return_, 1, (0, 0, 0, 0), 0) := rfl
theorem s43_73 {c : Nat → List AV → SS → Option Out} {l0 l1 l2 l3 l4 l5 l6 l7 : Option AV} {L2 : List (Nat × AV)} {S : SS} : ev c 43 73 [l0, l1, l2, l3, l4, l5, l6, l7] L2 [] S = some (.inl none, S) := ev_end i43_73 rfl
theorem m43 {d : Nat} {o : OId} {a0 : Int32} {a1 : Int32} {a2 : Int32} {a3 : Int32} {S : SS} : evm (d + 1) 43 [aR o, aI a0, aI a1, aI a2, aI a3] S = ev (evm d) 43 0 [some (aR o), some (aI a0), some (aI a1), some (aI a2), some (aI a3), none, none, none] [] [] S := evm_s (n := 8) rfl (Nat.le_of_ble_eq_true rfl) rfl rfl
/-! FrequencyOffice$Spans.putShut(IIJ)V -/
theorem i45_0 : insAt 45 0 = some (.iload_n 1, 1, (0, 0, 0, 0), 0) := rfl
theorem s45_0 {c : Nat → List AV → SS → Option Out} {l0 l2 l3 l4 l5 : Option AV} {x : Int32} {L2 : List (Nat × AV)} {St : List AV} {S : SS} : ev c 45 0 [l0, some (aI x), l2, l3, l4, l5] L2 St S = ev c 45 1 [l0, some (aI x), l2, l3, l4, l5] L2 (aI x :: St) S := ev_go i45_0 rfl
theorem i45_1 : insAt 45 1 = some (.iload_n 2, 1, (0, 0, 0, 0), 0) := rfl
theorem s45_1 {c : Nat → List AV → SS → Option Out} {l0 l1 l3 l4 l5 : Option AV} {x : Int32} {L2 : List (Nat × AV)} {St : List AV} {S : SS} : ev c 45 1 [l0, l1, some (aI x), l3, l4, l5] L2 St S = ev c 45 2 [l0, l1, some (aI x), l3, l4, l5] L2 (aI x :: St) S := ev_go i45_1 rfl
theorem i45_2 : insAt 45 2 = some (.invokestatic 94, 3, (30, 2, 1, 0), 127) := rfl
theorem s45_2 {c : Nat → List AV → SS → Option Out} {l0 l1 l2 l3 l4 l5 : Option AV} {a0 : Int32} {a1 : Int32} {L2 : List (Nat × AV)} {S : SS} : ev c 45 2 [l0, l1, l2, l3, l4, l5] L2 [aI a1, aI a0] S = ck (c 30 [aI a0, aI a1] S) (fun v S' => ev c 45 5 [l0, l1, l2, l3, l4, l5] L2 (v.toList ++ []) S') := ev_call i45_2 rfl
theorem i45_5 : insAt 45 5 = some (.istore 5, 2, (0, 0, 0, 0), 0) := rfl
theorem s45_5 {c : Nat → List AV → SS → Option Out} {l0 l1 l2 l3 l4 l5 : Option AV} {x : Int32} {L2 : List (Nat × AV)} {St : List AV} {S : SS} : ev c 45 5 [l0, l1, l2, l3, l4, l5] L2 (aI x :: St) S = ev c 45 7 [l0, l1, l2, l3, l4, some (aI x)] (kil L2 5) St S := ev_go i45_5 rfl
theorem i45_7 : insAt 45 7 = some (.iload 5, 2, (0, 0, 0, 0), 0) := rfl
theorem s45_7 {c : Nat → List AV → SS → Option Out} {l0 l1 l2 l3 l4 : Option AV} {x : Int32} {L2 : List (Nat × AV)} {St : List AV} {S : SS} : ev c 45 7 [l0, l1, l2, l3, l4, some (aI x)] L2 St S = ev c 45 9 [l0, l1, l2, l3, l4, some (aI x)] L2 (aI x :: St) S := ev_go i45_7 rfl
theorem i45_9 : insAt 45 9 = some (.ifCond .lt 21, 3, (0, 0, 0, 0), 0) := rfl
theorem s45_9 {c : Nat → List AV → SS → Option Out} {l0 l1 l2 l3 l4 l5 : Option AV} {x : Int32} {L2 : List (Nat × AV)} {St : List AV} {S : SS} : ev c 45 9 [l0, l1, l2, l3, l4, l5] L2 (aI x :: St) S = if x < 0 then ev c 45 30 [l0, l1, l2, l3, l4, l5] L2 St S else ev c 45 12 [l0, l1, l2, l3, l4, l5] L2 St S := ev_br i45_9 rfl
theorem i45_12 : insAt 45 12 = some (.iload 5, 2, (0, 0, 0, 0), 0) := rfl
theorem s45_12 {c : Nat → List AV → SS → Option Out} {l0 l1 l2 l3 l4 : Option AV} {x : Int32} {L2 : List (Nat × AV)} {St : List AV} {S : SS} : ev c 45 12 [l0, l1, l2, l3, l4, some (aI x)] L2 St S = ev c 45 14 [l0, l1, l2, l3, l4, some (aI x)] L2 (aI x :: St) S := ev_go i45_12 rfl
theorem i45_14 : insAt 45 14 = some (.aload_n 0, 1, (0, 0, 0, 0), 0) := rfl
theorem s45_14 {c : Nat → List AV → SS → Option Out} {l1 l2 l3 l4 l5 : Option AV} {o : OId} {L2 : List (Nat × AV)} {St : List AV} {S : SS} : ev c 45 14 [some (aR o), l1, l2, l3, l4, l5] L2 St S = ev c 45 15 [some (aR o), l1, l2, l3, l4, l5] L2 (aR o :: St) S := ev_go i45_14 rfl
theorem i45_15 : insAt 45 15 = some (.getfield 15, 3, (9, 2, 0, 0), 68) := rfl
theorem s45_15 {c : Nat → List AV → SS → Option Out} {l0 l1 l2 l3 l4 l5 : Option AV} {j t : Nat} {L2 : List (Nat × AV)} {St : List AV} {S : SS} : ev c 45 15 [l0, l1, l2, l3, l4, l5] L2 (aR (9, j, t) :: St) S = ev c 45 18 [l0, l1, l2, l3, l4, l5] L2 (S.2.2.1 (9, j, t) 2 :: St) S := ev_go i45_15 rfl
theorem i45_18 : insAt 45 18 = some (.arraylength, 1, (0, 0, 0, 0), 0) := rfl
theorem s45_18 {c : Nat → List AV → SS → Option Out} {l0 l1 l2 l3 l4 l5 : Option AV} {o : OId} {L2 : List (Nat × AV)} {St : List AV} {S : SS} : ev c 45 18 [l0, l1, l2, l3, l4, l5] L2 (aR o :: St) S = kN o (fun x => ev c 45 19 [l0, l1, l2, l3, l4, l5] L2 (aI x :: St) S) := ev_alen i45_18
theorem i45_19 : insAt 45 19 = some (.if_icmp .ge 11, 3, (0, 0, 0, 0), 0) := rfl
theorem s45_19 {c : Nat → List AV → SS → Option Out} {l0 l1 l2 l3 l4 l5 : Option AV} {x y : Int32} {L2 : List (Nat × AV)} {St : List AV} {S : SS} : ev c 45 19 [l0, l1, l2, l3, l4, l5] L2 (aI y :: aI x :: St) S = if y ≤ x then ev c 45 30 [l0, l1, l2, l3, l4, l5] L2 St S else ev c 45 22 [l0, l1, l2, l3, l4, l5] L2 St S := ev_br i45_19 rfl
theorem i45_22 : insAt 45 22 = some (.aload_n 0, 1, (0, 0, 0, 0), 0) := rfl
theorem s45_22 {c : Nat → List AV → SS → Option Out} {l1 l2 l3 l4 l5 : Option AV} {o : OId} {L2 : List (Nat × AV)} {St : List AV} {S : SS} : ev c 45 22 [some (aR o), l1, l2, l3, l4, l5] L2 St S = ev c 45 23 [some (aR o), l1, l2, l3, l4, l5] L2 (aR o :: St) S := ev_go i45_22 rfl
theorem i45_23 : insAt 45 23 = some (.getfield 15, 3, (9, 2, 0, 0), 68) := rfl
theorem s45_23 {c : Nat → List AV → SS → Option Out} {l0 l1 l2 l3 l4 l5 : Option AV} {j t : Nat} {L2 : List (Nat × AV)} {St : List AV} {S : SS} : ev c 45 23 [l0, l1, l2, l3, l4, l5] L2 (aR (9, j, t) :: St) S = ev c 45 26 [l0, l1, l2, l3, l4, l5] L2 (S.2.2.1 (9, j, t) 2 :: St) S := ev_go i45_23 rfl
theorem i45_26 : insAt 45 26 = some (.iload 5, 2, (0, 0, 0, 0), 0) := rfl
theorem s45_26 {c : Nat → List AV → SS → Option Out} {l0 l1 l2 l3 l4 : Option AV} {x : Int32} {L2 : List (Nat × AV)} {St : List AV} {S : SS} : ev c 45 26 [l0, l1, l2, l3, l4, some (aI x)] L2 St S = ev c 45 28 [l0, l1, l2, l3, l4, some (aI x)] L2 (aI x :: St) S := ev_go i45_26 rfl
theorem i45_28 : insAt 45 28 = some (.lload_n 3, 1, (0, 0, 0, 0), 0) := rfl
theorem s45_28 {c : Nat → List AV → SS → Option Out} {l0 l1 l2 l3 l4 l5 : Option AV} {x : Int64} {L2 : List (Nat × AV)} {St : List AV} {S : SS} (h : ldL L2 3 = some x) : ev c 45 28 [l0, l1, l2, l3, l4, l5] L2 St S = ev c 45 29 [l0, l1, l2, l3, l4, l5] L2 (aL x :: St) S := ev_go i45_28 (by simp only [stepI]; exact (congrArg (fun q => match q with | some x => nx (28 + 1) [l0, l1, l2, l3, l4, l5] L2 (aL x :: St) S | none => none) h))
theorem i45_29 : insAt 45 29 = some (.lastore, 1, (0, 0, 0, 0), 0) := rfl
theorem s45_29 {c : Nat → List AV → SS → Option Out} {l0 l1 l2 l3 l4 l5 : Option AV} {x : Int64} {i : Int32} {o : OId} {L2 : List (Nat × AV)} {St : List AV} {S : SS} : ev c 45 29 [l0, l1, l2, l3, l4, l5] L2 (aL x :: aI i :: aR o :: St) S = kJ o i (ev c 45 30 [l0, l1, l2, l3, l4, l5] L2 St (S.1, setV S.2.1 o i.toNatClampNeg (aL x), S.2.2)) := ev_lastore i45_29
theorem i45_30 : insAt 45 30 = some (.return_, 1, (0, 0, 0, 0), 0) := rfl
theorem s45_30 {c : Nat → List AV → SS → Option Out} {l0 l1 l2 l3 l4 l5 : Option AV} {L2 : List (Nat × AV)} {S : SS} : ev c 45 30 [l0, l1, l2, l3, l4, l5] L2 [] S = some (.inl none, S) := ev_end i45_30 rfl
theorem m45 {d : Nat} {o : OId} {a0 : Int32} {a1 : Int32} {a2 : Int64} {S : SS} : evm (d + 1) 45 [aR o, aI a0, aI a1, aL a2] S = ev (evm d) 45 0 [some (aR o), some (aI a0), some (aI a1), none, none, none] [(3, aL a2)] [] S := evm_s (n := 6) rfl (Nat.le_of_ble_eq_true rfl) rfl rfl
/-! FrequencyOffice$Spans.leastByOrders()I -/
theorem i47_0 : insAt 47 0 = some (.aload_n 0, 1, (0, 0, 0, 0), 0) := rfl
theorem s47_0 {c : Nat → List AV → SS → Option Out} {o : OId} {L2 : List (Nat × AV)} {St : List AV} {S : SS} : ev c 47 0 [some (aR o)] L2 St S = ev c 47 1 [some (aR o)] L2 (aR o :: St) S := ev_go i47_0 rfl
theorem i47_1 : insAt 47 1 = some (.iconst 0, 1, (0, 0, 0, 0), 0) := rfl
theorem s47_1 {c : Nat → List AV → SS → Option Out} {l0 : Option AV} {L2 : List (Nat × AV)} {St : List AV} {S : SS} : ev c 47 1 [l0] L2 St S = ev c 47 2 [l0] L2 (aI 0 :: St) S := ev_go i47_1 rfl
theorem i47_2 : insAt 47 2 = some (.iconst 0, 1, (0, 0, 0, 0), 0) := rfl
theorem s47_2 {c : Nat → List AV → SS → Option Out} {l0 : Option AV} {L2 : List (Nat × AV)} {St : List AV} {S : SS} : ev c 47 2 [l0] L2 St S = ev c 47 3 [l0] L2 (aI 0 :: St) S := ev_go i47_2 rfl
theorem i47_3 : insAt 47 3 = some (.iconst 0, 1, (0, 0, 0, 0), 0) := rfl
theorem s47_3 {c : Nat → List AV → SS → Option Out} {l0 : Option AV} {L2 : List (Nat × AV)} {St : List AV} {S : SS} : ev c 47 3 [l0] L2 St S = ev c 47 4 [l0] L2 (aI 0 :: St) S := ev_go i47_3 rfl
theorem i47_4 : insAt 47 4 = some (.invokestatic 60, 3, (48, 4, 0, 0), 133) := rfl
theorem s47_4 {c : Nat → List AV → SS → Option Out} {l0 : Option AV} {a0 : OId} {a1 : Int32} {a2 : Int32} {a3 : Int32} {L2 : List (Nat × AV)} {S : SS} : ev c 47 4 [l0] L2 [aI a3, aI a2, aI a1, aR a0] S = ck (c 48 [aR a0, aI a1, aI a2, aI a3] S) (fun v S' => ev c 47 7 [l0] L2 (v.toList ++ []) S') := ev_call i47_4 rfl
theorem i47_7 : insAt 47 7 = some (.ireturn, 1, (0, 0, 0, 0), 0) := rfl
theorem s47_7 {c : Nat → List AV → SS → Option Out} {l0 : Option AV} {x : Int32} {L2 : List (Nat × AV)} {S : SS} : ev c 47 7 [l0] L2 [aI x] S = some (.inl (some (aI x)), S) := ev_end i47_7 rfl
theorem m47 {d : Nat} {o : OId} {S : SS} : evm (d + 1) 47 [aR o] S = ev (evm d) 47 0 [some (aR o)] [] [] S := evm_s (n := 1) rfl (Nat.le_of_ble_eq_true rfl) rfl rfl
/-! FrequencyOffice$Spans.leastFrom(LFrequencyOffice$Spans;III)I -/
theorem i48_0 : insAt 48 0 = some (.iload_n 1, 1, (0, 0, 0, 0), 0) := rfl
theorem s48_0 {c : Nat → List AV → SS → Option Out} {l0 l2 l3 l4 l5 l6 l7 : Option AV} {x : Int32} {L2 : List (Nat × AV)} {St : List AV} {S : SS} : ev c 48 0 [l0, some (aI x), l2, l3, l4, l5, l6, l7] L2 St S = ev c 48 1 [l0, some (aI x), l2, l3, l4, l5, l6, l7] L2 (aI x :: St) S := ev_go i48_0 rfl
theorem i48_1 : insAt 48 1 = some (.aload_n 0, 1, (0, 0, 0, 0), 0) := rfl
theorem s48_1 {c : Nat → List AV → SS → Option Out} {l1 l2 l3 l4 l5 l6 l7 : Option AV} {o : OId} {L2 : List (Nat × AV)} {St : List AV} {S : SS} : ev c 48 1 [some (aR o), l1, l2, l3, l4, l5, l6, l7] L2 St S = ev c 48 2 [some (aR o), l1, l2, l3, l4, l5, l6, l7] L2 (aR o :: St) S := ev_go i48_1 rfl
theorem i48_2 : insAt 48 2 = some (.getfield 19, 3, (9, 0, 0, 0), 69) := rfl
theorem s48_2 {c : Nat → List AV → SS → Option Out} {l0 l1 l2 l3 l4 l5 l6 l7 : Option AV} {j t : Nat} {L2 : List (Nat × AV)} {St : List AV} {S : SS} : ev c 48 2 [l0, l1, l2, l3, l4, l5, l6, l7] L2 (aR (9, j, t) :: St) S = ev c 48 5 [l0, l1, l2, l3, l4, l5, l6, l7] L2 (S.2.2.1 (9, j, t) 0 :: St) S := ev_go i48_2 rfl
theorem i48_5 : insAt 48 5 = some (.getfield 30, 3, (6, 0, 1, 0), 119) := rfl
theorem s48_5 {c : Nat → List AV → SS → Option Out} {l0 l1 l2 l3 l4 l5 l6 l7 : Option AV} {j t : Nat} {L2 : List (Nat × AV)} {St : List AV} {S : SS} : ev c 48 5 [l0, l1, l2, l3, l4, l5, l6, l7] L2 (aR (6, j, t) :: St) S = ev c 48 8 [l0, l1, l2, l3, l4, l5, l6, l7] L2 (aI (S.1 (6, j, t) 0) :: St) S := ev_go i48_5 rfl
theorem i48_8 : insAt 48 8 = some (.if_icmp .lt 5, 3, (0, 0, 0, 0), 0) := rfl
theorem s48_8 {c : Nat → List AV → SS → Option Out} {l0 l1 l2 l3 l4 l5 l6 l7 : Option AV} {x y : Int32} {L2 : List (Nat × AV)} {St : List AV} {S : SS} : ev c 48 8 [l0, l1, l2, l3, l4, l5, l6, l7] L2 (aI y :: aI x :: St) S = if x < y then ev c 48 13 [l0, l1, l2, l3, l4, l5, l6, l7] L2 St S else ev c 48 11 [l0, l1, l2, l3, l4, l5, l6, l7] L2 St S := ev_br i48_8 rfl
theorem i48_11 : insAt 48 11 = some (.iload_n 3, 1, (0, 0, 0, 0), 0) := rfl
theorem s48_11 {c : Nat → List AV → SS → Option Out} {l0 l1 l2 l4 l5 l6 l7 : Option AV} {x : Int32} {L2 : List (Nat × AV)} {St : List AV} {S : SS} : ev c 48 11 [l0, l1, l2, some (aI x), l4, l5, l6, l7] L2 St S = ev c 48 12 [l0, l1, l2, some (aI x), l4, l5, l6, l7] L2 (aI x :: St) S := ev_go i48_11 rfl
theorem i48_12 : insAt 48 12 = some (.ireturn, 1, (0, 0, 0, 0), 0) := rfl
theorem s48_12 {c : Nat → List AV → SS → Option Out} {l0 l1 l2 l3 l4 l5 l6 l7 : Option AV} {x : Int32} {L2 : List (Nat × AV)} {S : SS} : ev c 48 12 [l0, l1, l2, l3, l4, l5, l6, l7] L2 [aI x] S = some (.inl (some (aI x)), S) := ev_end i48_12 rfl
theorem i48_13 : insAt 48 13 = some (.bipush 56, 2, (0, 0, 0, 0), 0) := rfl
theorem s48_13 {c : Nat → List AV → SS → Option Out} {l0 l1 l2 l3 l4 l5 l6 l7 : Option AV} {L2 : List (Nat × AV)} {St : List AV} {S : SS} : ev c 48 13 [l0, l1, l2, l3, l4, l5, l6, l7] L2 St S = ev c 48 15 [l0, l1, l2, l3, l4, l5, l6, l7] L2 (aI 56 :: St) S := ev_go i48_13 rfl
theorem i48_15 : insAt 48 15 = some (.istore 4, 2, (0, 0, 0, 0), 0) := rfl
theorem s48_15 {c : Nat → List AV → SS → Option Out} {l0 l1 l2 l3 l4 l5 l6 l7 : Option AV} {x : Int32} {L2 : List (Nat × AV)} {St : List AV} {S : SS} : ev c 48 15 [l0, l1, l2, l3, l4, l5, l6, l7] L2 (aI x :: St) S = ev c 48 17 [l0, l1, l2, l3, some (aI x), l5, l6, l7] (kil L2 4) St S := ev_go i48_15 rfl
theorem i48_17 : insAt 48 17 = some (.iconst 0, 1, (0, 0, 0, 0), 0) := rfl
theorem s48_17 {c : Nat → List AV → SS → Option Out} {l0 l1 l2 l3 l4 l5 l6 l7 : Option AV} {L2 : List (Nat × AV)} {St : List AV} {S : SS} : ev c 48 17 [l0, l1, l2, l3, l4, l5, l6, l7] L2 St S = ev c 48 18 [l0, l1, l2, l3, l4, l5, l6, l7] L2 (aI 0 :: St) S := ev_go i48_17 rfl
theorem i48_18 : insAt 48 18 = some (.istore 5, 2, (0, 0, 0, 0), 0) := rfl
theorem s48_18 {c : Nat → List AV → SS → Option Out} {l0 l1 l2 l3 l4 l5 l6 l7 : Option AV} {x : Int32} {L2 : List (Nat × AV)} {St : List AV} {S : SS} : ev c 48 18 [l0, l1, l2, l3, l4, l5, l6, l7] L2 (aI x :: St) S = ev c 48 20 [l0, l1, l2, l3, l4, some (aI x), l6, l7] (kil L2 5) St S := ev_go i48_18 rfl
theorem i48_20 : insAt 48 20 = some (.iload 5, 2, (0, 0, 0, 0), 0) := rfl
theorem s48_20 {c : Nat → List AV → SS → Option Out} {l0 l1 l2 l3 l4 l6 l7 : Option AV} {x : Int32} {L2 : List (Nat × AV)} {St : List AV} {S : SS} : ev c 48 20 [l0, l1, l2, l3, l4, some (aI x), l6, l7] L2 St S = ev c 48 22 [l0, l1, l2, l3, l4, some (aI x), l6, l7] L2 (aI x :: St) S := ev_go i48_20 rfl
theorem i48_22 : insAt 48 22 = some (.aload_n 0, 1, (0, 0, 0, 0), 0) := rfl
theorem s48_22 {c : Nat → List AV → SS → Option Out} {l1 l2 l3 l4 l5 l6 l7 : Option AV} {o : OId} {L2 : List (Nat × AV)} {St : List AV} {S : SS} : ev c 48 22 [some (aR o), l1, l2, l3, l4, l5, l6, l7] L2 St S = ev c 48 23 [some (aR o), l1, l2, l3, l4, l5, l6, l7] L2 (aR o :: St) S := ev_go i48_22 rfl
theorem i48_23 : insAt 48 23 = some (.getfield 19, 3, (9, 0, 0, 0), 69) := rfl
theorem s48_23 {c : Nat → List AV → SS → Option Out} {l0 l1 l2 l3 l4 l5 l6 l7 : Option AV} {j t : Nat} {L2 : List (Nat × AV)} {St : List AV} {S : SS} : ev c 48 23 [l0, l1, l2, l3, l4, l5, l6, l7] L2 (aR (9, j, t) :: St) S = ev c 48 26 [l0, l1, l2, l3, l4, l5, l6, l7] L2 (S.2.2.1 (9, j, t) 0 :: St) S := ev_go i48_23 rfl
theorem i48_26 : insAt 48 26 = some (.getfield 30, 3, (6, 0, 1, 0), 119) := rfl
theorem s48_26 {c : Nat → List AV → SS → Option Out} {l0 l1 l2 l3 l4 l5 l6 l7 : Option AV} {j t : Nat} {L2 : List (Nat × AV)} {St : List AV} {S : SS} : ev c 48 26 [l0, l1, l2, l3, l4, l5, l6, l7] L2 (aR (6, j, t) :: St) S = ev c 48 29 [l0, l1, l2, l3, l4, l5, l6, l7] L2 (aI (S.1 (6, j, t) 0) :: St) S := ev_go i48_26 rfl
theorem i48_29 : insAt 48 29 = some (.if_icmp .ge 73, 3, (0, 0, 0, 0), 0) := rfl
theorem s48_29 {c : Nat → List AV → SS → Option Out} {l0 l1 l2 l3 l4 l5 l6 l7 : Option AV} {x y : Int32} {L2 : List (Nat × AV)} {St : List AV} {S : SS} : ev c 48 29 [l0, l1, l2, l3, l4, l5, l6, l7] L2 (aI y :: aI x :: St) S = if y ≤ x then ev c 48 102 [l0, l1, l2, l3, l4, l5, l6, l7] L2 St S else ev c 48 32 [l0, l1, l2, l3, l4, l5, l6, l7] L2 St S := ev_br i48_29 rfl
theorem i48_32 : insAt 48 32 = some (.iload_n 2, 1, (0, 0, 0, 0), 0) := rfl
theorem s48_32 {c : Nat → List AV → SS → Option Out} {l0 l1 l3 l4 l5 l6 l7 : Option AV} {x : Int32} {L2 : List (Nat × AV)} {St : List AV} {S : SS} : ev c 48 32 [l0, l1, some (aI x), l3, l4, l5, l6, l7] L2 St S = ev c 48 33 [l0, l1, some (aI x), l3, l4, l5, l6, l7] L2 (aI x :: St) S := ev_go i48_32 rfl
theorem i48_33 : insAt 48 33 = some (.i2l, 1, (0, 0, 0, 0), 0) := rfl
theorem s48_33 {c : Nat → List AV → SS → Option Out} {l0 l1 l2 l3 l4 l5 l6 l7 : Option AV} {x : Int32} {L2 : List (Nat × AV)} {St : List AV} {S : SS} : ev c 48 33 [l0, l1, l2, l3, l4, l5, l6, l7] L2 (aI x :: St) S = ev c 48 34 [l0, l1, l2, l3, l4, l5, l6, l7] L2 (aL x.toInt64 :: St) S := ev_go i48_33 rfl
theorem i48_34 : insAt 48 34 = some (.iload 5, 2, (0, 0, 0, 0), 0) := rfl
theorem s48_34 {c : Nat → List AV → SS → Option Out} {l0 l1 l2 l3 l4 l6 l7 : Option AV} {x : Int32} {L2 : List (Nat × AV)} {St : List AV} {S : SS} : ev c 48 34 [l0, l1, l2, l3, l4, some (aI x), l6, l7] L2 St S = ev c 48 36 [l0, l1, l2, l3, l4, some (aI x), l6, l7] L2 (aI x :: St) S := ev_go i48_34 rfl
theorem i48_36 : insAt 48 36 = some (.invokestatic 52, 3, (42, 2, 1, 0), 125) := rfl
theorem s48_36 {c : Nat → List AV → SS → Option Out} {l0 l1 l2 l3 l4 l5 l6 l7 : Option AV} {a0 : Int64} {a1 : Int32} {L2 : List (Nat × AV)} {S : SS} : ev c 48 36 [l0, l1, l2, l3, l4, l5, l6, l7] L2 [aI a1, aL a0] S = ck (c 42 [aL a0, aI a1] S) (fun v S' => ev c 48 39 [l0, l1, l2, l3, l4, l5, l6, l7] L2 (v.toList ++ []) S') := ev_call i48_36 rfl
theorem i48_39 : insAt 48 39 = some (.ifCond .ne 57, 3, (0, 0, 0, 0), 0) := rfl
theorem s48_39 {c : Nat → List AV → SS → Option Out} {l0 l1 l2 l3 l4 l5 l6 l7 : Option AV} {x : Int32} {L2 : List (Nat × AV)} {St : List AV} {S : SS} : ev c 48 39 [l0, l1, l2, l3, l4, l5, l6, l7] L2 (aI x :: St) S = if x = 0 then ev c 48 42 [l0, l1, l2, l3, l4, l5, l6, l7] L2 St S else ev c 48 96 [l0, l1, l2, l3, l4, l5, l6, l7] L2 St S := (ev_br i48_39 rfl).trans (ite_not _ _ _)
theorem i48_42 : insAt 48 42 = some (.aload_n 0, 1, (0, 0, 0, 0), 0) := rfl
theorem s48_42 {c : Nat → List AV → SS → Option Out} {l1 l2 l3 l4 l5 l6 l7 : Option AV} {o : OId} {L2 : List (Nat × AV)} {St : List AV} {S : SS} : ev c 48 42 [some (aR o), l1, l2, l3, l4, l5, l6, l7] L2 St S = ev c 48 43 [some (aR o), l1, l2, l3, l4, l5, l6, l7] L2 (aR o :: St) S := ev_go i48_42 rfl
theorem i48_43 : insAt 48 43 = some (.iload_n 1, 1, (0, 0, 0, 0), 0) := rfl
theorem s48_43 {c : Nat → List AV → SS → Option Out} {l0 l2 l3 l4 l5 l6 l7 : Option AV} {x : Int32} {L2 : List (Nat × AV)} {St : List AV} {S : SS} : ev c 48 43 [l0, some (aI x), l2, l3, l4, l5, l6, l7] L2 St S = ev c 48 44 [l0, some (aI x), l2, l3, l4, l5, l6, l7] L2 (aI x :: St) S := ev_go i48_43 rfl
theorem i48_44 : insAt 48 44 = some (.iload 5, 2, (0, 0, 0, 0), 0) := rfl
theorem s48_44 {c : Nat → List AV → SS → Option Out} {l0 l1 l2 l3 l4 l6 l7 : Option AV} {x : Int32} {L2 : List (Nat × AV)} {St : List AV} {S : SS} : ev c 48 44 [l0, l1, l2, l3, l4, some (aI x), l6, l7] L2 St S = ev c 48 46 [l0, l1, l2, l3, l4, some (aI x), l6, l7] L2 (aI x :: St) S := ev_go i48_44 rfl
theorem i48_46 : insAt 48 46 = some (.invokevirtual 48, 3, (41, 2, 2, 9), 124) := rfl
theorem s48_46 {c : Nat → List AV → SS → Option Out} {l0 l1 l2 l3 l4 l5 l6 l7 : Option AV} {a0 : Int32} {a1 : Int32} {j t : Nat} {L2 : List (Nat × AV)} {S : SS} : ev c 48 46 [l0, l1, l2, l3, l4, l5, l6, l7] L2 [aI a1, aI a0, aR (9, j, t)] S = ck (c 41 [aR (9, j, t), aI a0, aI a1] S) (fun v S' => ev c 48 49 [l0, l1, l2, l3, l4, l5, l6, l7] L2 (v.toList ++ []) S') := ev_call i48_46 rfl
theorem i48_49 : insAt 48 49 = some (.invokestatic 64, 3, (49, 1, 0, 0), 134) := rfl
theorem s48_49 {c : Nat → List AV → SS → Option Out} {l0 l1 l2 l3 l4 l5 l6 l7 : Option AV} {a0 : Int64} {L2 : List (Nat × AV)} {S : SS} : ev c 48 49 [l0, l1, l2, l3, l4, l5, l6, l7] L2 [aL a0] S = ck (c 49 [aL a0] S) (fun v S' => ev c 48 52 [l0, l1, l2, l3, l4, l5, l6, l7] L2 (v.toList ++ []) S') := ev_call i48_49 rfl
theorem i48_52 : insAt 48 52 = some (.istore 6, 2, (0, 0, 0, 0), 0) := rfl
theorem s48_52 {c : Nat → List AV → SS → Option Out} {l0 l1 l2 l3 l4 l5 l6 l7 : Option AV} {x : Int32} {L2 : List (Nat × AV)} {St : List AV} {S : SS} : ev c 48 52 [l0, l1, l2, l3, l4, l5, l6, l7] L2 (aI x :: St) S = ev c 48 54 [l0, l1, l2, l3, l4, l5, some (aI x), l7] (kil L2 6) St S := ev_go i48_52 rfl
theorem i48_54 : insAt 48 54 = some (.aload_n 0, 1, (0, 0, 0, 0), 0) := rfl
theorem s48_54 {c : Nat → List AV → SS → Option Out} {l1 l2 l3 l4 l5 l6 l7 : Option AV} {o : OId} {L2 : List (Nat × AV)} {St : List AV} {S : SS} : ev c 48 54 [some (aR o), l1, l2, l3, l4, l5, l6, l7] L2 St S = ev c 48 55 [some (aR o), l1, l2, l3, l4, l5, l6, l7] L2 (aR o :: St) S := ev_go i48_54 rfl
theorem i48_55 : insAt 48 55 = some (.iload 5, 2, (0, 0, 0, 0), 0) := rfl
theorem s48_55 {c : Nat → List AV → SS → Option Out} {l0 l1 l2 l3 l4 l6 l7 : Option AV} {x : Int32} {L2 : List (Nat × AV)} {St : List AV} {S : SS} : ev c 48 55 [l0, l1, l2, l3, l4, some (aI x), l6, l7] L2 St S = ev c 48 57 [l0, l1, l2, l3, l4, some (aI x), l6, l7] L2 (aI x :: St) S := ev_go i48_55 rfl
theorem i48_57 : insAt 48 57 = some (.iload 6, 2, (0, 0, 0, 0), 0) := rfl
theorem s48_57 {c : Nat → List AV → SS → Option Out} {l0 l1 l2 l3 l4 l5 l7 : Option AV} {x : Int32} {L2 : List (Nat × AV)} {St : List AV} {S : SS} : ev c 48 57 [l0, l1, l2, l3, l4, l5, some (aI x), l7] L2 St S = ev c 48 59 [l0, l1, l2, l3, l4, l5, some (aI x), l7] L2 (aI x :: St) S := ev_go i48_57 rfl
theorem i48_59 : insAt 48 59 = some (.iload_n 1, 1, (0, 0, 0, 0), 0) := rfl
theorem s48_59 {c : Nat → List AV → SS → Option Out} {l0 l2 l3 l4 l5 l6 l7 : Option AV} {x : Int32} {L2 : List (Nat × AV)} {St : List AV} {S : SS} : ev c 48 59 [l0, some (aI x), l2, l3, l4, l5, l6, l7] L2 St S = ev c 48 60 [l0, some (aI x), l2, l3, l4, l5, l6, l7] L2 (aI x :: St) S := ev_go i48_59 rfl
theorem i48_60 : insAt 48 60 = some (.iload_n 2, 1, (0, 0, 0, 0), 0) := rfl
theorem s48_60 {c : Nat → List AV → SS → Option Out} {l0 l1 l3 l4 l5 l6 l7 : Option AV} {x : Int32} {L2 : List (Nat × AV)} {St : List AV} {S : SS} : ev c 48 60 [l0, l1, some (aI x), l3, l4, l5, l6, l7] L2 St S = ev c 48 61 [l0, l1, some (aI x), l3, l4, l5, l6, l7] L2 (aI x :: St) S := ev_go i48_60 rfl
theorem i48_61 : insAt 48 61 = some (.invokevirtual 56, 3, (43, 4, 2, 9), 126) := rfl
theorem s48_61 {c : Nat → List AV → SS → Option Out} {l0 l1 l2 l3 l4 l5 l6 l7 : Option AV} {a0 : Int32} {a1 : Int32} {a2 : Int32} {a3 : Int32} {j t : Nat} {L2 : List (Nat × AV)} {S : SS} : ev c 48 61 [l0, l1, l2, l3, l4, l5, l6, l7] L2 [aI a3, aI a2, aI a1, aI a0, aR (9, j, t)] S = ck (c 43 [aR (9, j, t), aI a0, aI a1, aI a2, aI a3] S) (fun v S' => ev c 48 64 [l0, l1, l2, l3, l4, l5, l6, l7] L2 (v.toList ++ []) S') := ev_call i48_61 rfl
theorem i48_64 : insAt 48 64 = some (.iload_n 3, 1, (0, 0, 0, 0), 0) := rfl
theorem s48_64 {c : Nat → List AV → SS → Option Out} {l0 l1 l2 l4 l5 l6 l7 : Option AV} {x : Int32} {L2 : List (Nat × AV)} {St : List AV} {S : SS} : ev c 48 64 [l0, l1, l2, some (aI x), l4, l5, l6, l7] L2 St S = ev c 48 65 [l0, l1, l2, some (aI x), l4, l5, l6, l7] L2 (aI x :: St) S := ev_go i48_64 rfl
theorem i48_65 : insAt 48 65 = some (.iload 6, 2, (0, 0, 0, 0), 0) := rfl
theorem s48_65 {c : Nat → List AV → SS → Option Out} {l0 l1 l2 l3 l4 l5 l7 : Option AV} {x : Int32} {L2 : List (Nat × AV)} {St : List AV} {S : SS} : ev c 48 65 [l0, l1, l2, l3, l4, l5, some (aI x), l7] L2 St S = ev c 48 67 [l0, l1, l2, l3, l4, l5, some (aI x), l7] L2 (aI x :: St) S := ev_go i48_65 rfl
theorem i48_67 : insAt 48 67 = some (.iconst 1, 1, (0, 0, 0, 0), 0) := rfl
theorem s48_67 {c : Nat → List AV → SS → Option Out} {l0 l1 l2 l3 l4 l5 l6 l7 : Option AV} {L2 : List (Nat × AV)} {St : List AV} {S : SS} : ev c 48 67 [l0, l1, l2, l3, l4, l5, l6, l7] L2 St S = ev c 48 68 [l0, l1, l2, l3, l4, l5, l6, l7] L2 (aI 1 :: St) S := ev_go i48_67 rfl
theorem i48_68 : insAt 48 68 = some (.iadd, 1, (0, 0, 0, 0), 0) := rfl
theorem s48_68 {c : Nat → List AV → SS → Option Out} {l0 l1 l2 l3 l4 l5 l6 l7 : Option AV} {x y : Int32} {L2 : List (Nat × AV)} {St : List AV} {S : SS} : ev c 48 68 [l0, l1, l2, l3, l4, l5, l6, l7] L2 (aI y :: aI x :: St) S = ev c 48 69 [l0, l1, l2, l3, l4, l5, l6, l7] L2 (aI (x + y) :: St) S := ev_go i48_68 rfl
theorem i48_69 : insAt 48 69 = some (.invokestatic 68, 3, (0, 2, 23, 0), 135) := rfl
theorem s48_69 {c : Nat → List AV → SS → Option Out} {l0 l1 l2 l3 l4 l5 l6 l7 : Option AV} {x y : Int32} {L2 : List (Nat × AV)} {S : SS} : ev c 48 69 [l0, l1, l2, l3, l4, l5, l6, l7] L2 [aI y, aI x] S = ev c 48 72 [l0, l1, l2, l3, l4, l5, l6, l7] L2 [aI (if x < y then y else x)] S := ev_go i48_69 rfl
theorem i48_72 : insAt 48 72 = some (.istore 7, 2, (0, 0, 0, 0), 0) := rfl
theorem s48_72 {c : Nat → List AV → SS → Option Out} {l0 l1 l2 l3 l4 l5 l6 l7 : Option AV} {x : Int32} {L2 : List (Nat × AV)} {St : List AV} {S : SS} : ev c 48 72 [l0, l1, l2, l3, l4, l5, l6, l7] L2 (aI x :: St) S = ev c 48 74 [l0, l1, l2, l3, l4, l5, l6, some (aI x)] (kil L2 7) St S := ev_go i48_72 rfl
theorem i48_74 : insAt 48 74 = some (.iload 4, 2, (0, 0, 0, 0), 0) := rfl
theorem s48_74 {c : Nat → List AV → SS → Option Out} {l0 l1 l2 l3 l5 l6 l7 : Option AV} {x : Int32} {L2 : List (Nat × AV)} {St : List AV} {S : SS} : ev c 48 74 [l0, l1, l2, l3, some (aI x), l5, l6, l7] L2 St S = ev c 48 76 [l0, l1, l2, l3, some (aI x), l5, l6, l7] L2 (aI x :: St) S := ev_go i48_74 rfl
theorem i48_76 : insAt 48 76 = some (.aload_n 0, 1, (0, 0, 0, 0), 0) := rfl
theorem s48_76 {c : Nat → List AV → SS → Option Out} {l1 l2 l3 l4 l5 l6 l7 : Option AV} {o : OId} {L2 : List (Nat × AV)} {St : List AV} {S : SS} : ev c 48 76 [some (aR o), l1, l2, l3, l4, l5, l6, l7] L2 St S = ev c 48 77 [some (aR o), l1, l2, l3, l4, l5, l6, l7] L2 (aR o :: St) S := ev_go i48_76 rfl
theorem i48_77 : insAt 48 77 = some (.iload_n 1, 1, (0, 0, 0, 0), 0) := rfl
theorem s48_77 {c : Nat → List AV → SS → Option Out} {l0 l2 l3 l4 l5 l6 l7 : Option AV} {x : Int32} {L2 : List (Nat × AV)} {St : List AV} {S : SS} : ev c 48 77 [l0, some (aI x), l2, l3, l4, l5, l6, l7] L2 St S = ev c 48 78 [l0, some (aI x), l2, l3, l4, l5, l6, l7] L2 (aI x :: St) S := ev_go i48_77 rfl
theorem i48_78 : insAt 48 78 = some (.iconst 1, 1, (0, 0, 0, 0), 0) := rfl
theorem s48_78 {c : Nat → List AV → SS → Option Out} {l0 l1 l2 l3 l4 l5 l6 l7 : Option AV} {L2 : List (Nat × AV)} {St : List AV} {S : SS} : ev c 48 78 [l0, l1, l2, l3, l4, l5, l6, l7] L2 St S = ev c 48 79 [l0, l1, l2, l3, l4, l5, l6, l7] L2 (aI 1 :: St) S := ev_go i48_78 rfl
theorem i48_79 : insAt 48 79 = some (.iadd, 1, (0, 0, 0, 0), 0) := rfl
theorem s48_79 {c : Nat → List AV → SS → Option Out} {l0 l1 l2 l3 l4 l5 l6 l7 : Option AV} {x y : Int32} {L2 : List (Nat × AV)} {St : List AV} {S : SS} : ev c 48 79 [l0, l1, l2, l3, l4, l5, l6, l7] L2 (aI y :: aI x :: St) S = ev c 48 80 [l0, l1, l2, l3, l4, l5, l6, l7] L2 (aI (x + y) :: St) S := ev_go i48_79 rfl
theorem i48_80 : insAt 48 80 = some (.iload_n 2, 1, (0, 0, 0, 0), 0) := rfl
theorem s48_80 {c : Nat → List AV → SS → Option Out} {l0 l1 l3 l4 l5 l6 l7 : Option AV} {x : Int32} {L2 : List (Nat × AV)} {St : List AV} {S : SS} : ev c 48 80 [l0, l1, some (aI x), l3, l4, l5, l6, l7] L2 St S = ev c 48 81 [l0, l1, some (aI x), l3, l4, l5, l6, l7] L2 (aI x :: St) S := ev_go i48_80 rfl
theorem i48_81 : insAt 48 81 = some (.iconst 1, 1, (0, 0, 0, 0), 0) := rfl
theorem s48_81 {c : Nat → List AV → SS → Option Out} {l0 l1 l2 l3 l4 l5 l6 l7 : Option AV} {L2 : List (Nat × AV)} {St : List AV} {S : SS} : ev c 48 81 [l0, l1, l2, l3, l4, l5, l6, l7] L2 St S = ev c 48 82 [l0, l1, l2, l3, l4, l5, l6, l7] L2 (aI 1 :: St) S := ev_go i48_81 rfl
theorem i48_82 : insAt 48 82 = some (.iload 5, 2, (0, 0, 0, 0), 0) := rfl
theorem s48_82 {c : Nat → List AV → SS → Option Out} {l0 l1 l2 l3 l4 l6 l7 : Option AV} {x : Int32} {L2 : List (Nat × AV)} {St : List AV} {S : SS} : ev c 48 82 [l0, l1, l2, l3, l4, some (aI x), l6, l7] L2 St S = ev c 48 84 [l0, l1, l2, l3, l4, some (aI x), l6, l7] L2 (aI x :: St) S := ev_go i48_82 rfl
theorem i48_84 : insAt 48 84 = some (.ishl, 1, (0, 0, 0, 0), 0) := rfl
theorem s48_84 {c : Nat → List AV → SS → Option Out} {l0 l1 l2 l3 l4 l5 l6 l7 : Option AV} {x y : Int32} {L2 : List (Nat × AV)} {St : List AV} {S : SS} : ev c 48 84 [l0, l1, l2, l3, l4, l5, l6, l7] L2 (aI y :: aI x :: St) S = ev c 48 85 [l0, l1, l2, l3, l4, l5, l6, l7] L2 (aI (x <<< (y &&& 31)) :: St) S := ev_go i48_84 rfl
theorem i48_85 : insAt 48 85 = some (.ior, 1, (0, 0, 0, 0), 0) := rfl
theorem s48_85 {c : Nat → List AV → SS → Option Out} {l0 l1 l2 l3 l4 l5 l6 l7 : Option AV} {x y : Int32} {L2 : List (Nat × AV)} {St : List AV} {S : SS} : ev c 48 85 [l0, l1, l2, l3, l4, l5, l6, l7] L2 (aI y :: aI x :: St) S = ev c 48 86 [l0, l1, l2, l3, l4, l5, l6, l7] L2 (aI (x ||| y) :: St) S := ev_go i48_85 rfl
theorem i48_86 : insAt 48 86 = some (.iload 7, 2, (0, 0, 0, 0), 0) := rfl
theorem s48_86 {c : Nat → List AV → SS → Option Out} {l0 l1 l2 l3 l4 l5 l6 : Option AV} {x : Int32} {L2 : List (Nat × AV)} {St : List AV} {S : SS} : ev c 48 86 [l0, l1, l2, l3, l4, l5, l6, some (aI x)] L2 St S = ev c 48 88 [l0, l1, l2, l3, l4, l5, l6, some (aI x)] L2 (aI x :: St) S := ev_go i48_86 rfl
theorem i48_88 : insAt 48 88 = some (.invokestatic 60, 3, (48, 4, 0, 0), 133) := rfl
theorem s48_88 {c : Nat → List AV → SS → Option Out} {l0 l1 l2 l3 l4 l5 l6 l7 : Option AV} {t0 : AV} {a0 : OId} {a1 : Int32} {a2 : Int32} {a3 : Int32} {L2 : List (Nat × AV)} {S : SS} : ev c 48 88 [l0, l1, l2, l3, l4, l5, l6, l7] L2 [aI a3, aI a2, aI a1, aR a0, t0] S = ck (c 48 [aR a0, aI a1, aI a2, aI a3] S) (fun v S' => ev c 48 91 [l0, l1, l2, l3, l4, l5, l6, l7] L2 (v.toList ++ [t0]) S') := ev_call i48_88 rfl
theorem i48_91 : insAt 48 91 = some (.invokestatic 74, 3, (0, 2, 24, 0), 136) := rfl
theorem s48_91 {c : Nat → List AV → SS → Option Out} {l0 l1 l2 l3 l4 l5 l6 l7 : Option AV} {x y : Int32} {L2 : List (Nat × AV)} {S : SS} : ev c 48 91 [l0, l1, l2, l3, l4, l5, l6, l7] L2 [aI y, aI x] S = ev c 48 94 [l0, l1, l2, l3, l4, l5, l6, l7] L2 [aI (if y < x then y else x)] S := ev_go i48_91 rfl
theorem i48_94 : insAt 48 94 = some (.istore 4, 2, (0, 0, 0, 0), 0) := rfl
theorem s48_94 {c : Nat → List AV → SS → Option Out} {l0 l1 l2 l3 l4 l5 l6 l7 : Option AV} {x : Int32} {L2 : List (Nat × AV)} {St : List AV} {S : SS} : ev c 48 94 [l0, l1, l2, l3, l4, l5, l6, l7] L2 (aI x :: St) S = ev c 48 96 [l0, l1, l2, l3, some (aI x), l5, l6, l7] (kil L2 4) St S := ev_go i48_94 rfl
theorem i48_96 : insAt 48 96 = some (.iinc 5 1, 3, (0, 0, 0, 0), 0) := rfl
theorem s48_96 {c : Nat → List AV → SS → Option Out} {l0 l1 l2 l3 l4 l6 l7 : Option AV} {x : Int32} {L2 : List (Nat × AV)} {St : List AV} {S : SS} : ev c 48 96 [l0, l1, l2, l3, l4, some (aI x), l6, l7] L2 St S = ev c 48 99 [l0, l1, l2, l3, l4, some (aI (x + 1)), l6, l7] (kil L2 5) St S := ev_go i48_96 rfl
theorem i48_99 : insAt 48 99 = some (.goto (-79), 3, (0, 0, 0, 0), 0) := rfl
theorem s48_99 {c : Nat → List AV → SS → Option Out} {l0 l1 l2 l3 l4 l5 l6 l7 : Option AV} {L2 : List (Nat × AV)} {St : List AV} {S : SS} : ev c 48 99 [l0, l1, l2, l3, l4, l5, l6, l7] L2 St S = ev c 48 20 [l0, l1, l2, l3, l4, l5, l6, l7] L2 St S := ev_go i48_99 rfl
theorem i48_102 : insAt 48 102 = some (.iload 4, 2, (0, 0, 0, 0), 0) := rfl
theorem s48_102 {c : Nat → List AV → SS → Option Out} {l0 l1 l2 l3 l5 l6 l7 : Option AV} {x : Int32} {L2 : List (Nat × AV)} {St : List AV} {S : SS} : ev c 48 102 [l0, l1, l2, l3, some (aI x), l5, l6, l7] L2 St S = ev c 48 104 [l0, l1, l2, l3, some (aI x), l5, l6, l7] L2 (aI x :: St) S := ev_go i48_102 rfl
theorem i48_104 : insAt 48 104 = some (.ireturn, 1, (0, 0, 0, 0), 0) := rfl
theorem s48_104 {c : Nat → List AV → SS → Option Out} {l0 l1 l2 l3 l4 l5 l6 l7 : Option AV} {x : Int32} {L2 : List (Nat × AV)} {S : SS} : ev c 48 104 [l0, l1, l2, l3, l4, l5, l6, l7] L2 [aI x] S = some (.inl (some (aI x)), S) := ev_end i48_104 rfl
theorem m48 {d : Nat} {a0 : OId} {a1 : Int32} {a2 : Int32} {a3 : Int32} {S : SS} : evm (d + 1) 48 [aR a0, aI a1, aI a2, aI a3] S = ev (evm d) 48 0 [some (aR a0), some (aI a1), some (aI a2), some (aI a3), none, none, none, none] [] [] S := evm_s (n := 8) rfl (Nat.le_of_ble_eq_true rfl) rfl rfl
/-! FrequencyOffice$Spans.lowestOpen(J)I -/
theorem i49_0 : insAt 49 0 = some (.lload_n 0, 1, (0, 0, 0, 0), 0) := rfl
theorem s49_0 {c : Nat → List AV → SS → Option Out} {l0 l1 l2 l3 : Option AV} {x : Int64} {L2 : List (Nat × AV)} {St : List AV} {S : SS} (h : ldL L2 0 = some x) : ev c 49 0 [l0, l1, l2, l3] L2 St S = ev c 49 1 [l0, l1, l2, l3] L2 (aL x :: St) S := ev_go i49_0 (by simp only [stepI]; exact (congrArg (fun q => match q with | some x => nx (0 + 1) [l0, l1, l2, l3] L2 (aL x :: St) S | none => none) h))
theorem i49_1 : insAt 49 1 = some (.ldc2_w 77, 3, (137, 0, 0, 0), -1) := rfl
theorem s49_1 {c : Nat → List AV → SS → Option Out} {l0 l1 l2 l3 : Option AV} {L2 : List (Nat × AV)} {St : List AV} {S : SS} : ev c 49 1 [l0, l1, l2, l3] L2 St S = ev c 49 4 [l0, l1, l2, l3] L2 (aL (-1) :: St) S := ev_go i49_1 rfl
theorem i49_4 : insAt 49 4 = some (.lxor, 1, (0, 0, 0, 0), 0) := rfl
theorem s49_4 {c : Nat → List AV → SS → Option Out} {l0 l1 l2 l3 : Option AV} {x y : Int64} {L2 : List (Nat × AV)} {St : List AV} {S : SS} : ev c 49 4 [l0, l1, l2, l3] L2 (aL y :: aL x :: St) S = ev c 49 5 [l0, l1, l2, l3] L2 (aL (x ^^^ y) :: St) S := ev_go i49_4 rfl
theorem i49_5 : insAt 49 5 = some (.lload_n 0, 1, (0, 0, 0, 0), 0) := rfl
theorem s49_5 {c : Nat → List AV → SS → Option Out} {l0 l1 l2 l3 : Option AV} {x : Int64} {L2 : List (Nat × AV)} {St : List AV} {S : SS} (h : ldL L2 0 = some x) : ev c 49 5 [l0, l1, l2, l3] L2 St S = ev c 49 6 [l0, l1, l2, l3] L2 (aL x :: St) S := ev_go i49_5 (by simp only [stepI]; exact (congrArg (fun q => match q with | some x => nx (5 + 1) [l0, l1, l2, l3] L2 (aL x :: St) S | none => none) h))
theorem i49_6 : insAt 49 6 = some (.lconst 1, 1, (0, 0, 0, 0), 0) := rfl
theorem s49_6 {c : Nat → List AV → SS → Option Out} {l0 l1 l2 l3 : Option AV} {L2 : List (Nat × AV)} {St : List AV} {S : SS} : ev c 49 6 [l0, l1, l2, l3] L2 St S = ev c 49 7 [l0, l1, l2, l3] L2 (aL 1 :: St) S := ev_go i49_6 rfl
theorem i49_7 : insAt 49 7 = some (.ladd, 1, (0, 0, 0, 0), 0) := rfl
theorem s49_7 {c : Nat → List AV → SS → Option Out} {l0 l1 l2 l3 : Option AV} {x y : Int64} {L2 : List (Nat × AV)} {St : List AV} {S : SS} : ev c 49 7 [l0, l1, l2, l3] L2 (aL y :: aL x :: St) S = ev c 49 8 [l0, l1, l2, l3] L2 (aL (x + y) :: St) S := ev_go i49_7 rfl
theorem i49_8 : insAt 49 8 = some (.land, 1, (0, 0, 0, 0), 0) := rfl
theorem s49_8 {c : Nat → List AV → SS → Option Out} {l0 l1 l2 l3 : Option AV} {x y : Int64} {L2 : List (Nat × AV)} {St : List AV} {S : SS} : ev c 49 8 [l0, l1, l2, l3] L2 (aL y :: aL x :: St) S = ev c 49 9 [l0, l1, l2, l3] L2 (aL (x &&& y) :: St) S := ev_go i49_8 rfl
theorem i49_9 : insAt 49 9 = some (.lstore_n 2, 1, (0, 0, 0, 0), 0) := rfl
theorem s49_9 {c : Nat → List AV → SS → Option Out} {l0 l1 l2 l3 : Option AV} {x : Int64} {L2 : List (Nat × AV)} {St : List AV} {S : SS} : ev c 49 9 [l0, l1, l2, l3] L2 (aL x :: St) S = ev c 49 10 [l0, l1, none, none] ((2, aL x) :: kil2 L2 2) St S := ev_go i49_9 rfl
theorem i49_10 : insAt 49 10 = some (.lload_n 2, 1, (0, 0, 0, 0), 0) := rfl
theorem s49_10 {c : Nat → List AV → SS → Option Out} {l0 l1 l2 l3 : Option AV} {x : Int64} {L2 : List (Nat × AV)} {St : List AV} {S : SS} (h : ldL L2 2 = some x) : ev c 49 10 [l0, l1, l2, l3] L2 St S = ev c 49 11 [l0, l1, l2, l3] L2 (aL x :: St) S := ev_go i49_10 (by simp only [stepI]; exact (congrArg (fun q => match q with | some x => nx (10 + 1) [l0, l1, l2, l3] L2 (aL x :: St) S | none => none) h))
theorem i49_11 : insAt 49 11 = some (.lconst 1, 1, (0, 0, 0, 0), 0) := rfl
theorem s49_11 {c : Nat → List AV → SS → Option Out} {l0 l1 l2 l3 : Option AV} {L2 : List (Nat × AV)} {St : List AV} {S : SS} : ev c 49 11 [l0, l1, l2, l3] L2 St S = ev c 49 12 [l0, l1, l2, l3] L2 (aL 1 :: St) S := ev_go i49_11 rfl
theorem i49_12 : insAt 49 12 = some (.lsub, 1, (0, 0, 0, 0), 0) := rfl
theorem s49_12 {c : Nat → List AV → SS → Option Out} {l0 l1 l2 l3 : Option AV} {x y : Int64} {L2 : List (Nat × AV)} {St : List AV} {S : SS} : ev c 49 12 [l0, l1, l2, l3] L2 (aL y :: aL x :: St) S = ev c 49 13 [l0, l1, l2, l3] L2 (aL (x - y) :: St) S := ev_go i49_12 rfl
theorem i49_13 : insAt 49 13 = some (.invokestatic 79, 3, (50, 1, 0, 0), 138) := rfl
theorem s49_13 {c : Nat → List AV → SS → Option Out} {l0 l1 l2 l3 : Option AV} {a0 : Int64} {L2 : List (Nat × AV)} {S : SS} : ev c 49 13 [l0, l1, l2, l3] L2 [aL a0] S = ck (c 50 [aL a0] S) (fun v S' => ev c 49 16 [l0, l1, l2, l3] L2 (v.toList ++ []) S') := ev_call i49_13 rfl
theorem i49_16 : insAt 49 16 = some (.ireturn, 1, (0, 0, 0, 0), 0) := rfl
theorem s49_16 {c : Nat → List AV → SS → Option Out} {l0 l1 l2 l3 : Option AV} {x : Int32} {L2 : List (Nat × AV)} {S : SS} : ev c 49 16 [l0, l1, l2, l3] L2 [aI x] S = some (.inl (some (aI x)), S) := ev_end i49_16 rfl
theorem m49 {d : Nat} {a0 : Int64} {S : SS} : evm (d + 1) 49 [aL a0] S = ev (evm d) 49 0 [none, none, none, none] [(0, aL a0)] [] S := evm_s (n := 4) rfl (Nat.le_of_ble_eq_true rfl) rfl rfl
/-! FrequencyOffice$Books.take(LFrequencyOffice$Books;)V -/
theorem i53_0 : insAt 53 0 = some (.aload_n 0, 1, (0, 0, 0, 0), 0) := rfl
theorem s53_0 {c : Nat → List AV → SS → Option Out} {l1 l2 : Option AV} {o : OId} {L2 : List (Nat × AV)} {St : List AV} {S : SS} : ev c 53 0 [some (aR o), l1, l2] L2 St S = ev c 53 1 [some (aR o), l1, l2] L2 (aR o :: St) S := ev_go i53_0 rfl
theorem i53_1 : insAt 53 1 = some (.aload_n 1, 1, (0, 0, 0, 0), 0) := rfl
theorem s53_1 {c : Nat → List AV → SS → Option Out} {l0 l2 : Option AV} {o : OId} {L2 : List (Nat × AV)} {St : List AV} {S : SS} : ev c 53 1 [l0, some (aR o), l2] L2 St S = ev c 53 2 [l0, some (aR o), l2] L2 (aR o :: St) S := ev_go i53_1 rfl
theorem i53_2 : insAt 53 2 = some (.getfield 9, 3, (4, 0, 0, 0), 21) := rfl
theorem s53_2 {c : Nat → List AV → SS → Option Out} {l0 l1 l2 : Option AV} {j t : Nat} {L2 : List (Nat × AV)} {St : List AV} {S : SS} : ev c 53 2 [l0, l1, l2] L2 (aR (4, j, t) :: St) S = ev c 53 5 [l0, l1, l2] L2 (aI (S.1 (4, j, t) 0) :: St) S := ev_go i53_2 rfl
theorem i53_5 : insAt 53 5 = some (.putfield 9, 3, (4, 0, 0, 0), 21) := rfl
theorem s53_5 {c : Nat → List AV → SS → Option Out} {l0 l1 l2 : Option AV} {j t : Nat} {x : Int32} {L2 : List (Nat × AV)} {St : List AV} {S : SS} : ev c 53 5 [l0, l1, l2] L2 (aI x :: aR (4, j, t) :: St) S = ev c 53 8 [l0, l1, l2] L2 St (setI S.1 (4, j, t) 0 x, S.2) := ev_go i53_5 rfl
theorem i53_8 : insAt 53 8 = some (.aload_n 0, 1, (0, 0, 0, 0), 0) := rfl
theorem s53_8 {c : Nat → List AV → SS → Option Out} {l1 l2 : Option AV} {o : OId} {L2 : List (Nat × AV)} {St : List AV} {S : SS} : ev c 53 8 [some (aR o), l1, l2] L2 St S = ev c 53 9 [some (aR o), l1, l2] L2 (aR o :: St) S := ev_go i53_8 rfl
theorem i53_9 : insAt 53 9 = some (.aload_n 1, 1, (0, 0, 0, 0), 0) := rfl
theorem s53_9 {c : Nat → List AV → SS → Option Out} {l0 l2 : Option AV} {o : OId} {L2 : List (Nat × AV)} {St : List AV} {S : SS} : ev c 53 9 [l0, some (aR o), l2] L2 St S = ev c 53 10 [l0, some (aR o), l2] L2 (aR o :: St) S := ev_go i53_9 rfl
theorem i53_10 : insAt 53 10 = some (.getfield 15, 3, (4, 1, 0, 0), 22) := rfl
theorem s53_10 {c : Nat → List AV → SS → Option Out} {l0 l1 l2 : Option AV} {j t : Nat} {L2 : List (Nat × AV)} {St : List AV} {S : SS} : ev c 53 10 [l0, l1, l2] L2 (aR (4, j, t) :: St) S = ev c 53 13 [l0, l1, l2] L2 (aI (S.1 (4, j, t) 1) :: St) S := ev_go i53_10 rfl
theorem i53_13 : insAt 53 13 = some (.putfield 15, 3, (4, 1, 0, 0), 22) := rfl
theorem s53_13 {c : Nat → List AV → SS → Option Out} {l0 l1 l2 : Option AV} {j t : Nat} {x : Int32} {L2 : List (Nat × AV)} {St : List AV} {S : SS} : ev c 53 13 [l0, l1, l2] L2 (aI x :: aR (4, j, t) :: St) S = ev c 53 16 [l0, l1, l2] L2 St (setI S.1 (4, j, t) 1 x, S.2) := ev_go i53_13 rfl
theorem i53_16 : insAt 53 16 = some (.aload_n 0, 1, (0, 0, 0, 0), 0) := rfl
theorem s53_16 {c : Nat → List AV → SS → Option Out} {l1 l2 : Option AV} {o : OId} {L2 : List (Nat × AV)} {St : List AV} {S : SS} : ev c 53 16 [some (aR o), l1, l2] L2 St S = ev c 53 17 [some (aR o), l1, l2] L2 (aR o :: St) S := ev_go i53_16 rfl
theorem i53_17 : insAt 53 17 = some (.aload_n 1, 1, (0, 0, 0, 0), 0) := rfl
theorem s53_17 {c : Nat → List AV → SS → Option Out} {l0 l2 : Option AV} {o : OId} {L2 : List (Nat × AV)} {St : List AV} {S : SS} : ev c 53 17 [l0, some (aR o), l2] L2 St S = ev c 53 18 [l0, some (aR o), l2] L2 (aR o :: St) S := ev_go i53_17 rfl
theorem i53_18 : insAt 53 18 = some (.getfield 18, 3, (4, 2, 0, 0), 23) := rfl
theorem s53_18 {c : Nat → List AV → SS → Option Out} {l0 l1 l2 : Option AV} {j t : Nat} {L2 : List (Nat × AV)} {St : List AV} {S : SS} : ev c 53 18 [l0, l1, l2] L2 (aR (4, j, t) :: St) S = ev c 53 21 [l0, l1, l2] L2 (aI (S.1 (4, j, t) 2) :: St) S := ev_go i53_18 rfl
theorem i53_21 : insAt 53 21 = some (.putfield 18, 3, (4, 2, 0, 0), 23) := rfl
theorem s53_21 {c : Nat → List AV → SS → Option Out} {l0 l1 l2 : Option AV} {j t : Nat} {x : Int32} {L2 : List (Nat × AV)} {St : List AV} {S : SS} : ev c 53 21 [l0, l1, l2] L2 (aI x :: aR (4, j, t) :: St) S = ev c 53 24 [l0, l1, l2] L2 St (setI S.1 (4, j, t) 2 x, S.2) := ev_go i53_21 rfl
theorem i53_24 : insAt 53 24 = some (.aload_n 0, 1, (0, 0, 0, 0), 0) := rfl
theorem s53_24 {c : Nat → List AV → SS → Option Out} {l1 l2 : Option AV} {o : OId} {L2 : List (Nat × AV)} {St : List AV} {S : SS} : ev c 53 24 [some (aR o), l1, l2] L2 St S = ev c 53 25 [some (aR o), l1, l2] L2 (aR o :: St) S := ev_go i53_24 rfl
theorem i53_25 : insAt 53 25 = some (.aload_n 1, 1, (0, 0, 0, 0), 0) := rfl
theorem s53_25 {c : Nat → List AV → SS → Option Out} {l0 l2 : Option AV} {o : OId} {L2 : List (Nat × AV)} {St : List AV} {S : SS} : ev c 53 25 [l0, some (aR o), l2] L2 St S = ev c 53 26 [l0, some (aR o), l2] L2 (aR o :: St) S := ev_go i53_25 rfl
theorem i53_26 : insAt 53 26 = some (.getfield 21, 3, (4, 3, 0, 0), 24) := rfl
theorem s53_26 {c : Nat → List AV → SS → Option Out} {l0 l1 l2 : Option AV} {j t : Nat} {L2 : List (Nat × AV)} {St : List AV} {S : SS} : ev c 53 26 [l0, l1, l2] L2 (aR (4, j, t) :: St) S = ev c 53 29 [l0, l1, l2] L2 (aI (S.1 (4, j, t) 3) :: St) S := ev_go i53_26 rfl
theorem i53_29 : insAt 53 29 = some (.putfield 21, 3, (4, 3, 0, 0), 24) := rfl
theorem s53_29 {c : Nat → List AV → SS → Option Out} {l0 l1 l2 : Option AV} {j t : Nat} {x : Int32} {L2 : List (Nat × AV)} {St : List AV} {S : SS} : ev c 53 29 [l0, l1, l2] L2 (aI x :: aR (4, j, t) :: St) S = ev c 53 32 [l0, l1, l2] L2 St (setI S.1 (4, j, t) 3 x, S.2) := ev_go i53_29 rfl
theorem i53_32 : insAt 53 32 = some (.aload_n 0, 1, (0, 0, 0, 0), 0) := rfl
theorem s53_32 {c : Nat → List AV → SS → Option Out} {l1 l2 : Option AV} {o : OId} {L2 : List (Nat × AV)} {St : List AV} {S : SS} : ev c 53 32 [some (aR o), l1, l2] L2 St S = ev c 53 33 [some (aR o), l1, l2] L2 (aR o :: St) S := ev_go i53_32 rfl
theorem i53_33 : insAt 53 33 = some (.aload_n 1, 1, (0, 0, 0, 0), 0) := rfl
theorem s53_33 {c : Nat → List AV → SS → Option Out} {l0 l2 : Option AV} {o : OId} {L2 : List (Nat × AV)} {St : List AV} {S : SS} : ev c 53 33 [l0, some (aR o), l2] L2 St S = ev c 53 34 [l0, some (aR o), l2] L2 (aR o :: St) S := ev_go i53_33 rfl
theorem i53_34 : insAt 53 34 = some (.getfield 24, 3, (4, 4, 0, 0), 25) := rfl
theorem s53_34 {c : Nat → List AV → SS → Option Out} {l0 l1 l2 : Option AV} {j t : Nat} {L2 : List (Nat × AV)} {St : List AV} {S : SS} : ev c 53 34 [l0, l1, l2] L2 (aR (4, j, t) :: St) S = ev c 53 37 [l0, l1, l2] L2 (aI (S.1 (4, j, t) 4) :: St) S := ev_go i53_34 rfl
theorem i53_37 : insAt 53 37 = some (.putfield 24, 3, (4, 4, 0, 0), 25) := rfl
theorem s53_37 {c : Nat → List AV → SS → Option Out} {l0 l1 l2 : Option AV} {j t : Nat} {x : Int32} {L2 : List (Nat × AV)} {St : List AV} {S : SS} : ev c 53 37 [l0, l1, l2] L2 (aI x :: aR (4, j, t) :: St) S = ev c 53 40 [l0, l1, l2] L2 St (setI S.1 (4, j, t) 4 x, S.2) := ev_go i53_37 rfl
theorem i53_40 : insAt 53 40 = some (.aload_n 0, 1, (0, 0, 0, 0), 0) := rfl
theorem s53_40 {c : Nat → List AV → SS → Option Out} {l1 l2 : Option AV} {o : OId} {L2 : List (Nat × AV)} {St : List AV} {S : SS} : ev c 53 40 [some (aR o), l1, l2] L2 St S = ev c 53 41 [some (aR o), l1, l2] L2 (aR o :: St) S := ev_go i53_40 rfl
theorem i53_41 : insAt 53 41 = some (.aload_n 1, 1, (0, 0, 0, 0), 0) := rfl
theorem s53_41 {c : Nat → List AV → SS → Option Out} {l0 l2 : Option AV} {o : OId} {L2 : List (Nat × AV)} {St : List AV} {S : SS} : ev c 53 41 [l0, some (aR o), l2] L2 St S = ev c 53 42 [l0, some (aR o), l2] L2 (aR o :: St) S := ev_go i53_41 rfl
theorem i53_42 : insAt 53 42 = some (.getfield 27, 3, (4, 5, 0, 0), 26) := rfl
theorem s53_42 {c : Nat → List AV → SS → Option Out} {l0 l1 l2 : Option AV} {j t : Nat} {L2 : List (Nat × AV)} {St : List AV} {S : SS} : ev c 53 42 [l0, l1, l2] L2 (aR (4, j, t) :: St) S = ev c 53 45 [l0, l1, l2] L2 (aI (S.1 (4, j, t) 5) :: St) S := ev_go i53_42 rfl
theorem i53_45 : insAt 53 45 = some (.putfield 27, 3, (4, 5, 0, 0), 26) := rfl
theorem s53_45 {c : Nat → List AV → SS → Option Out} {l0 l1 l2 : Option AV} {j t : Nat} {x : Int32} {L2 : List (Nat × AV)} {St : List AV} {S : SS} : ev c 53 45 [l0, l1, l2] L2 (aI x :: aR (4, j, t) :: St) S = ev c 53 48 [l0, l1, l2] L2 St (setI S.1 (4, j, t) 5 x, S.2) := ev_go i53_45 rfl
theorem i53_48 : insAt 53 48 = some (.aload_n 0, 1, (0, 0, 0, 0), 0) := rfl
theorem s53_48 {c : Nat → List AV → SS → Option Out} {l1 l2 : Option AV} {o : OId} {L2 : List (Nat × AV)} {St : List AV} {S : SS} : ev c 53 48 [some (aR o), l1, l2] L2 St S = ev c 53 49 [some (aR o), l1, l2] L2 (aR o :: St) S := ev_go i53_48 rfl
theorem i53_49 : insAt 53 49 = some (.aload_n 1, 1, (0, 0, 0, 0), 0) := rfl
theorem s53_49 {c : Nat → List AV → SS → Option Out} {l0 l2 : Option AV} {o : OId} {L2 : List (Nat × AV)} {St : List AV} {S : SS} : ev c 53 49 [l0, some (aR o), l2] L2 St S = ev c 53 50 [l0, some (aR o), l2] L2 (aR o :: St) S := ev_go i53_49 rfl
theorem i53_50 : insAt 53 50 = some (.getfield 30, 3, (4, 6, 0, 0), 27) := rfl
theorem s53_50 {c : Nat → List AV → SS → Option Out} {l0 l1 l2 : Option AV} {j t : Nat} {L2 : List (Nat × AV)} {St : List AV} {S : SS} : ev c 53 50 [l0, l1, l2] L2 (aR (4, j, t) :: St) S = ev c 53 53 [l0, l1, l2] L2 (aI (S.1 (4, j, t) 6) :: St) S := ev_go i53_50 rfl
theorem i53_53 : insAt 53 53 = some (.putfield 30, 3, (4, 6, 0, 0), 27) := rfl
theorem s53_53 {c : Nat → List AV → SS → Option Out} {l0 l1 l2 : Option AV} {j t : Nat} {x : Int32} {L2 : List (Nat × AV)} {St : List AV} {S : SS} : ev c 53 53 [l0, l1, l2] L2 (aI x :: aR (4, j, t) :: St) S = ev c 53 56 [l0, l1, l2] L2 St (setI S.1 (4, j, t) 6 x, S.2) := ev_go i53_53 rfl
theorem i53_56 : insAt 53 56 = some (.aload_n 0, 1, (0, 0, 0, 0), 0) := rfl
theorem s53_56 {c : Nat → List AV → SS → Option Out} {l1 l2 : Option AV} {o : OId} {L2 : List (Nat × AV)} {St : List AV} {S : SS} : ev c 53 56 [some (aR o), l1, l2] L2 St S = ev c 53 57 [some (aR o), l1, l2] L2 (aR o :: St) S := ev_go i53_56 rfl
theorem i53_57 : insAt 53 57 = some (.aload_n 1, 1, (0, 0, 0, 0), 0) := rfl
theorem s53_57 {c : Nat → List AV → SS → Option Out} {l0 l2 : Option AV} {o : OId} {L2 : List (Nat × AV)} {St : List AV} {S : SS} : ev c 53 57 [l0, some (aR o), l2] L2 St S = ev c 53 58 [l0, some (aR o), l2] L2 (aR o :: St) S := ev_go i53_57 rfl
theorem i53_58 : insAt 53 58 = some (.getfield 33, 3, (4, 7, 0, 0), 28) := rfl
theorem s53_58 {c : Nat → List AV → SS → Option Out} {l0 l1 l2 : Option AV} {j t : Nat} {L2 : List (Nat × AV)} {St : List AV} {S : SS} : ev c 53 58 [l0, l1, l2] L2 (aR (4, j, t) :: St) S = ev c 53 61 [l0, l1, l2] L2 (aI (S.1 (4, j, t) 7) :: St) S := ev_go i53_58 rfl
theorem i53_61 : insAt 53 61 = some (.putfield 33, 3, (4, 7, 0, 0), 28) := rfl
theorem s53_61 {c : Nat → List AV → SS → Option Out} {l0 l1 l2 : Option AV} {j t : Nat} {x : Int32} {L2 : List (Nat × AV)} {St : List AV} {S : SS} : ev c 53 61 [l0, l1, l2] L2 (aI x :: aR (4, j, t) :: St) S = ev c 53 64 [l0, l1, l2] L2 St (setI S.1 (4, j, t) 7 x, S.2) := ev_go i53_61 rfl
theorem i53_64 : insAt 53 64 = some (.iconst 0, 1, (0, 0, 0, 0), 0) := rfl
theorem s53_64 {c : Nat → List AV → SS → Option Out} {l0 l1 l2 : Option AV} {L2 : List (Nat × AV)} {St : List AV} {S : SS} : ev c 53 64 [l0, l1, l2] L2 St S = ev c 53 65 [l0, l1, l2] L2 (aI 0 :: St) S := ev_go i53_64 rfl
theorem i53_65 : insAt 53 65 = some (.istore_n 2, 1, (0, 0, 0, 0), 0) := rfl
theorem s53_65 {c : Nat → List AV → SS → Option Out} {l0 l1 l2 : Option AV} {x : Int32} {L2 : List (Nat × AV)} {St : List AV} {S : SS} : ev c 53 65 [l0, l1, l2] L2 (aI x :: St) S = ev c 53 66 [l0, l1, some (aI x)] (kil L2 2) St S := ev_go i53_65 rfl
theorem i53_66 : insAt 53 66 = some (.iload_n 2, 1, (0, 0, 0, 0), 0) := rfl
theorem s53_66 {c : Nat → List AV → SS → Option Out} {l0 l1 : Option AV} {x : Int32} {L2 : List (Nat × AV)} {St : List AV} {S : SS} : ev c 53 66 [l0, l1, some (aI x)] L2 St S = ev c 53 67 [l0, l1, some (aI x)] L2 (aI x :: St) S := ev_go i53_66 rfl
theorem i53_67 : insAt 53 67 = some (.aload_n 0, 1, (0, 0, 0, 0), 0) := rfl
theorem s53_67 {c : Nat → List AV → SS → Option Out} {l1 l2 : Option AV} {o : OId} {L2 : List (Nat × AV)} {St : List AV} {S : SS} : ev c 53 67 [some (aR o), l1, l2] L2 St S = ev c 53 68 [some (aR o), l1, l2] L2 (aR o :: St) S := ev_go i53_67 rfl
theorem i53_68 : insAt 53 68 = some (.getfield 33, 3, (4, 7, 0, 0), 28) := rfl
theorem s53_68 {c : Nat → List AV → SS → Option Out} {l0 l1 l2 : Option AV} {j t : Nat} {L2 : List (Nat × AV)} {St : List AV} {S : SS} : ev c 53 68 [l0, l1, l2] L2 (aR (4, j, t) :: St) S = ev c 53 71 [l0, l1, l2] L2 (aI (S.1 (4, j, t) 7) :: St) S := ev_go i53_68 rfl
theorem i53_71 : insAt 53 71 = some (.if_icmp .ge 22, 3, (0, 0, 0, 0), 0) := rfl
theorem s53_71 {c : Nat → List AV → SS → Option Out} {l0 l1 l2 : Option AV} {x y : Int32} {L2 : List (Nat × AV)} {St : List AV} {S : SS} : ev c 53 71 [l0, l1, l2] L2 (aI y :: aI x :: St) S = if y ≤ x then ev c 53 93 [l0, l1, l2] L2 St S else ev c 53 74 [l0, l1, l2] L2 St S := ev_br i53_71 rfl
theorem i53_74 : insAt 53 74 = some (.aload_n 0, 1, (0, 0, 0, 0), 0) := rfl
theorem s53_74 {c : Nat → List AV → SS → Option Out} {l1 l2 : Option AV} {o : OId} {L2 : List (Nat × AV)} {St : List AV} {S : SS} : ev c 53 74 [some (aR o), l1, l2] L2 St S = ev c 53 75 [some (aR o), l1, l2] L2 (aR o :: St) S := ev_go i53_74 rfl
theorem i53_75 : insAt 53 75 = some (.iload_n 2, 1, (0, 0, 0, 0), 0) := rfl
theorem s53_75 {c : Nat → List AV → SS → Option Out} {l0 l1 : Option AV} {x : Int32} {L2 : List (Nat × AV)} {St : List AV} {S : SS} : ev c 53 75 [l0, l1, some (aI x)] L2 St S = ev c 53 76 [l0, l1, some (aI x)] L2 (aI x :: St) S := ev_go i53_75 rfl
theorem i53_76 : insAt 53 76 = some (.invokevirtual 58, 3, (17, 1, 2, 4), 81) := rfl
theorem s53_76 {c : Nat → List AV → SS → Option Out} {l0 l1 l2 : Option AV} {a0 : Int32} {j t : Nat} {L2 : List (Nat × AV)} {S : SS} : ev c 53 76 [l0, l1, l2] L2 [aI a0, aR (4, j, t)] S = ck (c 17 [aR (4, j, t), aI a0] S) (fun v S' => ev c 53 79 [l0, l1, l2] L2 (v.toList ++ []) S') := ev_call i53_76 rfl
theorem i53_79 : insAt 53 79 = some (.aload_n 1, 1, (0, 0, 0, 0), 0) := rfl
theorem s53_79 {c : Nat → List AV → SS → Option Out} {l0 l2 : Option AV} {o : OId} {L2 : List (Nat × AV)} {St : List AV} {S : SS} : ev c 53 79 [l0, some (aR o), l2] L2 St S = ev c 53 80 [l0, some (aR o), l2] L2 (aR o :: St) S := ev_go i53_79 rfl
theorem i53_80 : insAt 53 80 = some (.iload_n 2, 1, (0, 0, 0, 0), 0) := rfl
theorem s53_80 {c : Nat → List AV → SS → Option Out} {l0 l1 : Option AV} {x : Int32} {L2 : List (Nat × AV)} {St : List AV} {S : SS} : ev c 53 80 [l0, l1, some (aI x)] L2 St S = ev c 53 81 [l0, l1, some (aI x)] L2 (aI x :: St) S := ev_go i53_80 rfl
theorem i53_81 : insAt 53 81 = some (.invokevirtual 58, 3, (17, 1, 2, 4), 81) := rfl
theorem s53_81 {c : Nat → List AV → SS → Option Out} {l0 l1 l2 : Option AV} {t0 : AV} {a0 : Int32} {j t : Nat} {L2 : List (Nat × AV)} {S : SS} : ev c 53 81 [l0, l1, l2] L2 [aI a0, aR (4, j, t), t0] S = ck (c 17 [aR (4, j, t), aI a0] S) (fun v S' => ev c 53 84 [l0, l1, l2] L2 (v.toList ++ [t0]) S') := ev_call i53_81 rfl
theorem i53_84 : insAt 53 84 = some (.invokevirtual 62, 3, (54, 1, 3, 10), 146) := rfl
theorem s53_84 {c : Nat → List AV → SS → Option Out} {l0 l1 l2 : Option AV} {a0 : OId} {j t : Nat} {L2 : List (Nat × AV)} {S : SS} : ev c 53 84 [l0, l1, l2] L2 [aR a0, aR (10, j, t)] S = ck (c 54 [aR (10, j, t), aR a0] S) (fun v S' => ev c 53 87 [l0, l1, l2] L2 (v.toList ++ []) S') := ev_call i53_84 rfl
theorem i53_87 : insAt 53 87 = some (.iinc 2 1, 3, (0, 0, 0, 0), 0) := rfl
theorem s53_87 {c : Nat → List AV → SS → Option Out} {l0 l1 : Option AV} {x : Int32} {L2 : List (Nat × AV)} {St : List AV} {S : SS} : ev c 53 87 [l0, l1, some (aI x)] L2 St S = ev c 53 90 [l0, l1, some (aI (x + 1))] (kil L2 2) St S := ev_go i53_87 rfl
theorem i53_90 : insAt 53 90 = some (.goto (-24), 3, (0, 0, 0, 0), 0) := rfl
theorem s53_90 {c : Nat → List AV → SS → Option Out} {l0 l1 l2 : Option AV} {L2 : List (Nat × AV)} {St : List AV} {S : SS} : ev c 53 90 [l0, l1, l2] L2 St S = ev c 53 66 [l0, l1, l2] L2 St S := ev_go i53_90 rfl
theorem i53_93 : insAt 53 93 = some (.aload_n 1, 1, (0, 0, 0, 0), 0) := rfl
theorem s53_93 {c : Nat → List AV → SS → Option Out} {l0 l2 : Option AV} {o : OId} {L2 : List (Nat × AV)} {St : List AV} {S : SS} : ev c 53 93 [l0, some (aR o), l2] L2 St S = ev c 53 94 [l0, some (aR o), l2] L2 (aR o :: St) S := ev_go i53_93 rfl
theorem i53_94 : insAt 53 94 = some (.getfield 47, 3, (4, 10, 0, 0), 33) := rfl
theorem s53_94 {c : Nat → List AV → SS → Option Out} {l0 l1 l2 : Option AV} {j t : Nat} {L2 : List (Nat × AV)} {St : List AV} {S : SS} : ev c 53 94 [l0, l1, l2] L2 (aR (4, j, t) :: St) S = ev c 53 97 [l0, l1, l2] L2 (S.2.2.1 (4, j, t) 10 :: St) S := ev_go i53_94 rfl
theorem i53_97 : insAt 53 97 = some (.iconst 0, 1, (0, 0, 0, 0), 0) := rfl
theorem s53_97 {c : Nat → List AV → SS → Option Out} {l0 l1 l2 : Option AV} {L2 : List (Nat × AV)} {St : List AV} {S : SS} : ev c 53 97 [l0, l1, l2] L2 St S = ev c 53 98 [l0, l1, l2] L2 (aI 0 :: St) S := ev_go i53_97 rfl
theorem i53_98 : insAt 53 98 = some (.aload_n 0, 1, (0, 0, 0, 0), 0) := rfl
theorem s53_98 {c : Nat → List AV → SS → Option Out} {l1 l2 : Option AV} {o : OId} {L2 : List (Nat × AV)} {St : List AV} {S : SS} : ev c 53 98 [some (aR o), l1, l2] L2 St S = ev c 53 99 [some (aR o), l1, l2] L2 (aR o :: St) S := ev_go i53_98 rfl
theorem i53_99 : insAt 53 99 = some (.getfield 47, 3, (4, 10, 0, 0), 33) := rfl
theorem s53_99 {c : Nat → List AV → SS → Option Out} {l0 l1 l2 : Option AV} {j t : Nat} {L2 : List (Nat × AV)} {St : List AV} {S : SS} : ev c 53 99 [l0, l1, l2] L2 (aR (4, j, t) :: St) S = ev c 53 102 [l0, l1, l2] L2 (S.2.2.1 (4, j, t) 10 :: St) S := ev_go i53_99 rfl
theorem i53_102 : insAt 53 102 = some (.iconst 0, 1, (0, 0, 0, 0), 0) := rfl
theorem s53_102 {c : Nat → List AV → SS → Option Out} {l0 l1 l2 : Option AV} {L2 : List (Nat × AV)} {St : List AV} {S : SS} : ev c 53 102 [l0, l1, l2] L2 St S = ev c 53 103 [l0, l1, l2] L2 (aI 0 :: St) S := ev_go i53_102 rfl
theorem i53_103 : insAt 53 103 = some (.bipush 49, 2, (0, 0, 0, 0), 0) := rfl
theorem s53_103 {c : Nat → List AV → SS → Option Out} {l0 l1 l2 : Option AV} {L2 : List (Nat × AV)} {St : List AV} {S : SS} : ev c 53 103 [l0, l1, l2] L2 St S = ev c 53 105 [l0, l1, l2] L2 (aI 49 :: St) S := ev_go i53_103 rfl
theorem i53_105 : insAt 53 105 = some (.invokestatic 66, 3, (0, 5, 21, 0), 147) := rfl
theorem s53_105 {c : Nat → List AV → SS → Option Out} {l0 l1 l2 : Option AV} {x dp sp : Int32} {d s : OId} {L2 : List (Nat × AV)} {S : SS} : ev c 53 105 [l0, l1, l2] L2 [aI x, aI dp, aR d, aI sp, aR s] S = kA (acp S s sp d dp x) (fun S' => ev c 53 108 [l0, l1, l2] L2 [] S') := ev_acopy rfl i53_105 (by decide)
theorem i53_108 : insAt 53 108 = some (.aload_n 0, 1, (0, 0, 0, 0), 0) := rfl
theorem s53_108 {c : Nat → List AV → SS → Option Out} {l1 l2 : Option AV} {o : OId} {L2 : List (Nat × AV)} {St : List AV} {S : SS} : ev c 53 108 [some (aR o), l1, l2] L2 St S = ev c 53 109 [some (aR o), l1, l2] L2 (aR o :: St) S := ev_go i53_108 rfl
theorem i53_109 : insAt 53 109 = some (.getfield 54, 3, (4, 11, 0, 0), 36) := rfl
theorem s53_109 {c : Nat → List AV → SS → Option Out} {l0 l1 l2 : Option AV} {j t : Nat} {L2 : List (Nat × AV)} {St : List AV} {S : SS} : ev c 53 109 [l0, l1, l2] L2 (aR (4, j, t) :: St) S = ev c 53 112 [l0, l1, l2] L2 (S.2.2.1 (4, j, t) 11 :: St) S := ev_go i53_109 rfl
theorem i53_112 : insAt 53 112 = some (.aload_n 1, 1, (0, 0, 0, 0), 0) := rfl
theorem s53_112 {c : Nat → List AV → SS → Option Out} {l0 l2 : Option AV} {o : OId} {L2 : List (Nat × AV)} {St : List AV} {S : SS} : ev c 53 112 [l0, some (aR o), l2] L2 St S = ev c 53 113 [l0, some (aR o), l2] L2 (aR o :: St) S := ev_go i53_112 rfl
theorem i53_113 : insAt 53 113 = some (.getfield 54, 3, (4, 11, 0, 0), 36) := rfl
theorem s53_113 {c : Nat → List AV → SS → Option Out} {l0 l1 l2 : Option AV} {j t : Nat} {L2 : List (Nat × AV)} {St : List AV} {S : SS} : ev c 53 113 [l0, l1, l2] L2 (aR (4, j, t) :: St) S = ev c 53 116 [l0, l1, l2] L2 (S.2.2.1 (4, j, t) 11 :: St) S := ev_go i53_113 rfl
theorem i53_116 : insAt 53 116 = some (.invokevirtual 72, 3, (55, 1, 3, 7), 148) := rfl
theorem s53_116 {c : Nat → List AV → SS → Option Out} {l0 l1 l2 : Option AV} {a0 : OId} {j t : Nat} {L2 : List (Nat × AV)} {S : SS} : ev c 53 116 [l0, l1, l2] L2 [aR a0, aR (7, j, t)] S = ck (c 55 [aR (7, j, t), aR a0] S) (fun v S' => ev c 53 119 [l0, l1, l2] L2 (v.toList ++ []) S') := ev_call i53_116 rfl
theorem i53_119 : insAt 53 119 = some (.return_, 1, (0, 0, 0, 0), 0) := rfl
theorem s53_119 {c : Nat → List AV → SS → Option Out} {l0 l1 l2 : Option AV} {L2 : List (Nat × AV)} {S : SS} : ev c 53 119 [l0, l1, l2] L2 [] S = some (.inl none, S) := ev_end i53_119 rfl
theorem m53 {d : Nat} {o : OId} {a0 : OId} {S : SS} : evm (d + 1) 53 [aR o, aR a0] S = ev (evm d) 53 0 [some (aR o), some (aR a0), none] [] [] S := evm_s (n := 3) rfl (Nat.le_of_ble_eq_true rfl) rfl rfl
/-! FrequencyOffice$Station.take(LFrequencyOffice$Station;)V -/
theorem i54_0 : insAt 54 0 = some (.aload_n 0, 1, (0, 0, 0, 0), 0) := rfl
theorem s54_0 {c : Nat → List AV → SS → Option Out} {l1 : Option AV} {o : OId} {L2 : List (Nat × AV)} {St : List AV} {S : SS} : ev c 54 0 [some (aR o), l1] L2 St S = ev c 54 1 [some (aR o), l1] L2 (aR o :: St) S := ev_go i54_0 rfl
theorem i54_1 : insAt 54 1 = some (.aload_n 1, 1, (0, 0, 0, 0), 0) := rfl
theorem s54_1 {c : Nat → List AV → SS → Option Out} {l0 : Option AV} {o : OId} {L2 : List (Nat × AV)} {St : List AV} {S : SS} : ev c 54 1 [l0, some (aR o)] L2 St S = ev c 54 2 [l0, some (aR o)] L2 (aR o :: St) S := ev_go i54_1 rfl
theorem i54_2 : insAt 54 2 = some (.getfield 7, 3, (10, 0, 0, 0), 149) := rfl
theorem s54_2 {c : Nat → List AV → SS → Option Out} {l0 l1 : Option AV} {j t : Nat} {L2 : List (Nat × AV)} {St : List AV} {S : SS} : ev c 54 2 [l0, l1] L2 (aR (10, j, t) :: St) S = ev c 54 5 [l0, l1] L2 (aI (S.1 (10, j, t) 0) :: St) S := ev_go i54_2 rfl
theorem i54_5 : insAt 54 5 = some (.putfield 7, 3, (10, 0, 0, 0), 149) := rfl
theorem s54_5 {c : Nat → List AV → SS → Option Out} {l0 l1 : Option AV} {j t : Nat} {x : Int32} {L2 : List (Nat × AV)} {St : List AV} {S : SS} : ev c 54 5 [l0, l1] L2 (aI x :: aR (10, j, t) :: St) S = ev c 54 8 [l0, l1] L2 St (setI S.1 (10, j, t) 0 x, S.2) := ev_go i54_5 rfl
theorem i54_8 : insAt 54 8 = some (.aload_n 0, 1, (0, 0, 0, 0), 0) := rfl
theorem s54_8 {c : Nat → List AV → SS → Option Out} {l1 : Option AV} {o : OId} {L2 : List (Nat × AV)} {St : List AV} {S : SS} : ev c 54 8 [some (aR o), l1] L2 St S = ev c 54 9 [some (aR o), l1] L2 (aR o :: St) S := ev_go i54_8 rfl
theorem i54_9 : insAt 54 9 = some (.aload_n 1, 1, (0, 0, 0, 0), 0) := rfl
theorem s54_9 {c : Nat → List AV → SS → Option Out} {l0 : Option AV} {o : OId} {L2 : List (Nat × AV)} {St : List AV} {S : SS} : ev c 54 9 [l0, some (aR o)] L2 St S = ev c 54 10 [l0, some (aR o)] L2 (aR o :: St) S := ev_go i54_9 rfl
theorem i54_10 : insAt 54 10 = some (.getfield 13, 3, (10, 1, 0, 0), 100) := rfl
theorem s54_10 {c : Nat → List AV → SS → Option Out} {l0 l1 : Option AV} {j t : Nat} {L2 : List (Nat × AV)} {St : List AV} {S : SS} : ev c 54 10 [l0, l1] L2 (aR (10, j, t) :: St) S = ev c 54 13 [l0, l1] L2 (aI (S.1 (10, j, t) 1) :: St) S := ev_go i54_10 rfl
theorem i54_13 : insAt 54 13 = some (.putfield 13, 3, (10, 1, 0, 0), 100) := rfl
theorem s54_13 {c : Nat → List AV → SS → Option Out} {l0 l1 : Option AV} {j t : Nat} {x : Int32} {L2 : List (Nat × AV)} {St : List AV} {S : SS} : ev c 54 13 [l0, l1] L2 (aI x :: aR (10, j, t) :: St) S = ev c 54 16 [l0, l1] L2 St (setI S.1 (10, j, t) 1 x, S.2) := ev_go i54_13 rfl
theorem i54_16 : insAt 54 16 = some (.aload_n 0, 1, (0, 0, 0, 0), 0) := rfl
theorem s54_16 {c : Nat → List AV → SS → Option Out} {l1 : Option AV} {o : OId} {L2 : List (Nat × AV)} {St : List AV} {S : SS} : ev c 54 16 [some (aR o), l1] L2 St S = ev c 54 17 [some (aR o), l1] L2 (aR o :: St) S := ev_go i54_16 rfl
theorem i54_17 : insAt 54 17 = some (.aload_n 1, 1, (0, 0, 0, 0), 0) := rfl
theorem s54_17 {c : Nat → List AV → SS → Option Out} {l0 : Option AV} {o : OId} {L2 : List (Nat × AV)} {St : List AV} {S : SS} : ev c 54 17 [l0, some (aR o)] L2 St S = ev c 54 18 [l0, some (aR o)] L2 (aR o :: St) S := ev_go i54_17 rfl
theorem i54_18 : insAt 54 18 = some (.getfield 16, 3, (10, 2, 0, 0), 101) := rfl
theorem s54_18 {c : Nat → List AV → SS → Option Out} {l0 l1 : Option AV} {j t : Nat} {L2 : List (Nat × AV)} {St : List AV} {S : SS} : ev c 54 18 [l0, l1] L2 (aR (10, j, t) :: St) S = ev c 54 21 [l0, l1] L2 (aI (S.1 (10, j, t) 2) :: St) S := ev_go i54_18 rfl
theorem i54_21 : insAt 54 21 = some (.putfield 16, 3, (10, 2, 0, 0), 101) := rfl
theorem s54_21 {c : Nat → List AV → SS → Option Out} {l0 l1 : Option AV} {j t : Nat} {x : Int32} {L2 : List (Nat × AV)} {St : List AV} {S : SS} : ev c 54 21 [l0, l1] L2 (aI x :: aR (10, j, t) :: St) S = ev c 54 24 [l0, l1] L2 St (setI S.1 (10, j, t) 2 x, S.2) := ev_go i54_21 rfl
theorem i54_24 : insAt 54 24 = some (.aload_n 0, 1, (0, 0, 0, 0), 0) := rfl
theorem s54_24 {c : Nat → List AV → SS → Option Out} {l1 : Option AV} {o : OId} {L2 : List (Nat × AV)} {St : List AV} {S : SS} : ev c 54 24 [some (aR o), l1] L2 St S = ev c 54 25 [some (aR o), l1] L2 (aR o :: St) S := ev_go i54_24 rfl
theorem i54_25 : insAt 54 25 = some (.aload_n 1, 1, (0, 0, 0, 0), 0) := rfl
theorem s54_25 {c : Nat → List AV → SS → Option Out} {l0 : Option AV} {o : OId} {L2 : List (Nat × AV)} {St : List AV} {S : SS} : ev c 54 25 [l0, some (aR o)] L2 St S = ev c 54 26 [l0, some (aR o)] L2 (aR o :: St) S := ev_go i54_25 rfl
theorem i54_26 : insAt 54 26 = some (.getfield 19, 3, (10, 3, 0, 0), 150) := rfl
theorem s54_26 {c : Nat → List AV → SS → Option Out} {l0 l1 : Option AV} {j t : Nat} {L2 : List (Nat × AV)} {St : List AV} {S : SS} : ev c 54 26 [l0, l1] L2 (aR (10, j, t) :: St) S = ev c 54 29 [l0, l1] L2 (aI (S.1 (10, j, t) 3) :: St) S := ev_go i54_26 rfl
theorem i54_29 : insAt 54 29 = some (.putfield 19, 3, (10, 3, 0, 0), 150) := rfl
theorem s54_29 {c : Nat → List AV → SS → Option Out} {l0 l1 : Option AV} {j t : Nat} {x : Int32} {L2 : List (Nat × AV)} {St : List AV} {S : SS} : ev c 54 29 [l0, l1] L2 (aI x :: aR (10, j, t) :: St) S = ev c 54 32 [l0, l1] L2 St (setI S.1 (10, j, t) 3 x, S.2) := ev_go i54_29 rfl
theorem i54_32 : insAt 54 32 = some (.aload_n 0, 1, (0, 0, 0, 0), 0) := rfl
theorem s54_32 {c : Nat → List AV → SS → Option Out} {l1 : Option AV} {o : OId} {L2 : List (Nat × AV)} {St : List AV} {S : SS} : ev c 54 32 [some (aR o), l1] L2 St S = ev c 54 33 [some (aR o), l1] L2 (aR o :: St) S := ev_go i54_32 rfl
theorem i54_33 : insAt 54 33 = some (.aload_n 1, 1, (0, 0, 0, 0), 0) := rfl
theorem s54_33 {c : Nat → List AV → SS → Option Out} {l0 : Option AV} {o : OId} {L2 : List (Nat × AV)} {St : List AV} {S : SS} : ev c 54 33 [l0, some (aR o)] L2 St S = ev c 54 34 [l0, some (aR o)] L2 (aR o :: St) S := ev_go i54_33 rfl
theorem i54_34 : insAt 54 34 = some (.getfield 22, 3, (10, 4, 0, 0), 151) := rfl
theorem s54_34 {c : Nat → List AV → SS → Option Out} {l0 l1 : Option AV} {j t : Nat} {L2 : List (Nat × AV)} {St : List AV} {S : SS} : ev c 54 34 [l0, l1] L2 (aR (10, j, t) :: St) S = ev c 54 37 [l0, l1] L2 (aI (S.1 (10, j, t) 4) :: St) S := ev_go i54_34 rfl
theorem i54_37 : insAt 54 37 = some (.putfield 22, 3, (10, 4, 0, 0), 151) := rfl
theorem s54_37 {c : Nat → List AV → SS → Option Out} {l0 l1 : Option AV} {j t : Nat} {x : Int32} {L2 : List (Nat × AV)} {St : List AV} {S : SS} : ev c 54 37 [l0, l1] L2 (aI x :: aR (10, j, t) :: St) S = ev c 54 40 [l0, l1] L2 St (setI S.1 (10, j, t) 4 x, S.2) := ev_go i54_37 rfl
theorem i54_40 : insAt 54 40 = some (.aload_n 0, 1, (0, 0, 0, 0), 0) := rfl
theorem s54_40 {c : Nat → List AV → SS → Option Out} {l1 : Option AV} {o : OId} {L2 : List (Nat × AV)} {St : List AV} {S : SS} : ev c 54 40 [some (aR o), l1] L2 St S = ev c 54 41 [some (aR o), l1] L2 (aR o :: St) S := ev_go i54_40 rfl
theorem i54_41 : insAt 54 41 = some (.aload_n 1, 1, (0, 0, 0, 0), 0) := rfl
theorem s54_41 {c : Nat → List AV → SS → Option Out} {l0 : Option AV} {o : OId} {L2 : List (Nat × AV)} {St : List AV} {S : SS} : ev c 54 41 [l0, some (aR o)] L2 St S = ev c 54 42 [l0, some (aR o)] L2 (aR o :: St) S := ev_go i54_41 rfl
theorem i54_42 : insAt 54 42 = some (.getfield 25, 3, (10, 5, 0, 0), 152) := rfl
theorem s54_42 {c : Nat → List AV → SS → Option Out} {l0 l1 : Option AV} {j t : Nat} {L2 : List (Nat × AV)} {St : List AV} {S : SS} : ev c 54 42 [l0, l1] L2 (aR (10, j, t) :: St) S = ev c 54 45 [l0, l1] L2 (aI (bb (S.1 (10, j, t) 5)) :: St) S := ev_go i54_42 rfl
theorem i54_45 : insAt 54 45 = some (.putfield 25, 3, (10, 5, 0, 0), 152) := rfl
theorem s54_45 {c : Nat → List AV → SS → Option Out} {l0 l1 : Option AV} {j t : Nat} {x : Int32} {L2 : List (Nat × AV)} {St : List AV} {S : SS} : ev c 54 45 [l0, l1] L2 (aI x :: aR (10, j, t) :: St) S = if x = 0 ∨ x = 1 then ev c 54 48 [l0, l1] L2 St (setI S.1 (10, j, t) 5 x, S.2) else none := ev_if i54_45 rfl
theorem i54_48 : insAt 54 48 = some (.return_, 1, (0, 0, 0, 0), 0) := rfl
theorem s54_48 {c : Nat → List AV → SS → Option Out} {l0 l1 : Option AV} {L2 : List (Nat × AV)} {S : SS} : ev c 54 48 [l0, l1] L2 [] S = some (.inl none, S) := ev_end i54_48 rfl
theorem m54 {d : Nat} {o : OId} {a0 : OId} {S : SS} : evm (d + 1) 54 [aR o, aR a0] S = ev (evm d) 54 0 [some (aR o), some (aR a0)] [] [] S := evm_s (n := 2) rfl (Nat.le_of_ble_eq_true rfl) rfl rfl
/-! FrequencyOffice$Plan.take(LFrequencyOffice$Plan;)V -/
theorem i55_0 : insAt 55 0 = some (.aload_n 0, 1, (0, 0, 0, 0), 0) := rfl
theorem s55_0 {c : Nat → List AV → SS → Option Out} {l1 : Option AV} {o : OId} {L2 : List (Nat × AV)} {St : List AV} {S : SS} : ev c 55 0 [some (aR o), l1] L2 St S = ev c 55 1 [some (aR o), l1] L2 (aR o :: St) S := ev_go i55_0 rfl
theorem i55_1 : insAt 55 1 = some (.aload_n 1, 1, (0, 0, 0, 0), 0) := rfl
theorem s55_1 {c : Nat → List AV → SS → Option Out} {l0 : Option AV} {o : OId} {L2 : List (Nat × AV)} {St : List AV} {S : SS} : ev c 55 1 [l0, some (aR o)] L2 St S = ev c 55 2 [l0, some (aR o)] L2 (aR o :: St) S := ev_go i55_1 rfl
theorem i55_2 : insAt 55 2 = some (.getfield 9, 3, (7, 0, 0, 0), 39) := rfl
theorem s55_2 {c : Nat → List AV → SS → Option Out} {l0 l1 : Option AV} {j t : Nat} {L2 : List (Nat × AV)} {St : List AV} {S : SS} : ev c 55 2 [l0, l1] L2 (aR (7, j, t) :: St) S = ev c 55 5 [l0, l1] L2 (aI (S.1 (7, j, t) 0) :: St) S := ev_go i55_2 rfl
theorem i55_5 : insAt 55 5 = some (.putfield 9, 3, (7, 0, 0, 0), 39) := rfl
theorem s55_5 {c : Nat → List AV → SS → Option Out} {l0 l1 : Option AV} {j t : Nat} {x : Int32} {L2 : List (Nat × AV)} {St : List AV} {S : SS} : ev c 55 5 [l0, l1] L2 (aI x :: aR (7, j, t) :: St) S = ev c 55 8 [l0, l1] L2 St (setI S.1 (7, j, t) 0 x, S.2) := ev_go i55_5 rfl
theorem i55_8 : insAt 55 8 = some (.aload_n 0, 1, (0, 0, 0, 0), 0) := rfl
theorem s55_8 {c : Nat → List AV → SS → Option Out} {l1 : Option AV} {o : OId} {L2 : List (Nat × AV)} {St : List AV} {S : SS} : ev c 55 8 [some (aR o), l1] L2 St S = ev c 55 9 [some (aR o), l1] L2 (aR o :: St) S := ev_go i55_8 rfl
theorem i55_9 : insAt 55 9 = some (.aload_n 1, 1, (0, 0, 0, 0), 0) := rfl
theorem s55_9 {c : Nat → List AV → SS → Option Out} {l0 : Option AV} {o : OId} {L2 : List (Nat × AV)} {St : List AV} {S : SS} : ev c 55 9 [l0, some (aR o)] L2 St S = ev c 55 10 [l0, some (aR o)] L2 (aR o :: St) S := ev_go i55_9 rfl
theorem i55_10 : insAt 55 10 = some (.getfield 15, 3, (7, 1, 0, 0), 40) := rfl
theorem s55_10 {c : Nat → List AV → SS → Option Out} {l0 l1 : Option AV} {j t : Nat} {L2 : List (Nat × AV)} {St : List AV} {S : SS} : ev c 55 10 [l0, l1] L2 (aR (7, j, t) :: St) S = ev c 55 13 [l0, l1] L2 (aI (S.1 (7, j, t) 1) :: St) S := ev_go i55_10 rfl
theorem i55_13 : insAt 55 13 = some (.putfield 15, 3, (7, 1, 0, 0), 40) := rfl
theorem s55_13 {c : Nat → List AV → SS → Option Out} {l0 l1 : Option AV} {j t : Nat} {x : Int32} {L2 : List (Nat × AV)} {St : List AV} {S : SS} : ev c 55 13 [l0, l1] L2 (aI x :: aR (7, j, t) :: St) S = ev c 55 16 [l0, l1] L2 St (setI S.1 (7, j, t) 1 x, S.2) := ev_go i55_13 rfl
theorem i55_16 : insAt 55 16 = some (.aload_n 1, 1, (0, 0, 0, 0), 0) := rfl
theorem s55_16 {c : Nat → List AV → SS → Option Out} {l0 : Option AV} {o : OId} {L2 : List (Nat × AV)} {St : List AV} {S : SS} : ev c 55 16 [l0, some (aR o)] L2 St S = ev c 55 17 [l0, some (aR o)] L2 (aR o :: St) S := ev_go i55_16 rfl
theorem i55_17 : insAt 55 17 = some (.getfield 18, 3, (7, 2, 0, 0), 41) := rfl
theorem s55_17 {c : Nat → List AV → SS → Option Out} {l0 l1 : Option AV} {j t : Nat} {L2 : List (Nat × AV)} {St : List AV} {S : SS} : ev c 55 17 [l0, l1] L2 (aR (7, j, t) :: St) S = ev c 55 20 [l0, l1] L2 (S.2.2.1 (7, j, t) 2 :: St) S := ev_go i55_17 rfl
theorem i55_20 : insAt 55 20 = some (.iconst 0, 1, (0, 0, 0, 0), 0) := rfl
theorem s55_20 {c : Nat → List AV → SS → Option Out} {l0 l1 : Option AV} {L2 : List (Nat × AV)} {St : List AV} {S : SS} : ev c 55 20 [l0, l1] L2 St S = ev c 55 21 [l0, l1] L2 (aI 0 :: St) S := ev_go i55_20 rfl
theorem i55_21 : insAt 55 21 = some (.aload_n 0, 1, (0, 0, 0, 0), 0) := rfl
theorem s55_21 {c : Nat → List AV → SS → Option Out} {l1 : Option AV} {o : OId} {L2 : List (Nat × AV)} {St : List AV} {S : SS} : ev c 55 21 [some (aR o), l1] L2 St S = ev c 55 22 [some (aR o), l1] L2 (aR o :: St) S := ev_go i55_21 rfl
theorem i55_22 : insAt 55 22 = some (.getfield 18, 3, (7, 2, 0, 0), 41) := rfl
theorem s55_22 {c : Nat → List AV → SS → Option Out} {l0 l1 : Option AV} {j t : Nat} {L2 : List (Nat × AV)} {St : List AV} {S : SS} : ev c 55 22 [l0, l1] L2 (aR (7, j, t) :: St) S = ev c 55 25 [l0, l1] L2 (S.2.2.1 (7, j, t) 2 :: St) S := ev_go i55_22 rfl
theorem i55_25 : insAt 55 25 = some (.iconst 0, 1, (0, 0, 0, 0), 0) := rfl
theorem s55_25 {c : Nat → List AV → SS → Option Out} {l0 l1 : Option AV} {L2 : List (Nat × AV)} {St : List AV} {S : SS} : ev c 55 25 [l0, l1] L2 St S = ev c 55 26 [l0, l1] L2 (aI 0 :: St) S := ev_go i55_25 rfl
theorem i55_26 : insAt 55 26 = some (.iconst 2, 1, (0, 0, 0, 0), 0) := rfl
theorem s55_26 {c : Nat → List AV → SS → Option Out} {l0 l1 : Option AV} {L2 : List (Nat × AV)} {St : List AV} {S : SS} : ev c 55 26 [l0, l1] L2 St S = ev c 55 27 [l0, l1] L2 (aI 2 :: St) S := ev_go i55_26 rfl
theorem i55_27 : insAt 55 27 = some (.invokestatic 28, 3, (0, 5, 21, 0), 153) := rfl
theorem s55_27 {c : Nat → List AV → SS → Option Out} {l0 l1 : Option AV} {x dp sp : Int32} {d s : OId} {L2 : List (Nat × AV)} {S : SS} : ev c 55 27 [l0, l1] L2 [aI x, aI dp, aR d, aI sp, aR s] S = kA (acp S s sp d dp x) (fun S' => ev c 55 30 [l0, l1] L2 [] S') := ev_acopy rfl i55_27 (by decide)
theorem i55_30 : insAt 55 30 = some (.aload_n 1, 1, (0, 0, 0, 0), 0) := rfl
theorem s55_30 {c : Nat → List AV → SS → Option Out} {l0 : Option AV} {o : OId} {L2 : List (Nat × AV)} {St : List AV} {S : SS} : ev c 55 30 [l0, some (aR o)] L2 St S = ev c 55 31 [l0, some (aR o)] L2 (aR o :: St) S := ev_go i55_30 rfl
theorem i55_31 : insAt 55 31 = some (.getfield 22, 3, (7, 3, 0, 0), 42) := rfl
theorem s55_31 {c : Nat → List AV → SS → Option Out} {l0 l1 : Option AV} {j t : Nat} {L2 : List (Nat × AV)} {St : List AV} {S : SS} : ev c 55 31 [l0, l1] L2 (aR (7, j, t) :: St) S = ev c 55 34 [l0, l1] L2 (S.2.2.1 (7, j, t) 3 :: St) S := ev_go i55_31 rfl
theorem i55_34 : insAt 55 34 = some (.iconst 0, 1, (0, 0, 0, 0), 0) := rfl
theorem s55_34 {c : Nat → List AV → SS → Option Out} {l0 l1 : Option AV} {L2 : List (Nat × AV)} {St : List AV} {S : SS} : ev c 55 34 [l0, l1] L2 St S = ev c 55 35 [l0, l1] L2 (aI 0 :: St) S := ev_go i55_34 rfl
theorem i55_35 : insAt 55 35 = some (.aload_n 0, 1, (0, 0, 0, 0), 0) := rfl
theorem s55_35 {c : Nat → List AV → SS → Option Out} {l1 : Option AV} {o : OId} {L2 : List (Nat × AV)} {St : List AV} {S : SS} : ev c 55 35 [some (aR o), l1] L2 St S = ev c 55 36 [some (aR o), l1] L2 (aR o :: St) S := ev_go i55_35 rfl
theorem i55_36 : insAt 55 36 = some (.getfield 22, 3, (7, 3, 0, 0), 42) := rfl
theorem s55_36 {c : Nat → List AV → SS → Option Out} {l0 l1 : Option AV} {j t : Nat} {L2 : List (Nat × AV)} {St : List AV} {S : SS} : ev c 55 36 [l0, l1] L2 (aR (7, j, t) :: St) S = ev c 55 39 [l0, l1] L2 (S.2.2.1 (7, j, t) 3 :: St) S := ev_go i55_36 rfl
theorem i55_39 : insAt 55 39 = some (.iconst 0, 1, (0, 0, 0, 0), 0) := rfl
theorem s55_39 {c : Nat → List AV → SS → Option Out} {l0 l1 : Option AV} {L2 : List (Nat × AV)} {St : List AV} {S : SS} : ev c 55 39 [l0, l1] L2 St S = ev c 55 40 [l0, l1] L2 (aI 0 :: St) S := ev_go i55_39 rfl
theorem i55_40 : insAt 55 40 = some (.iconst 2, 1, (0, 0, 0, 0), 0) := rfl
theorem s55_40 {c : Nat → List AV → SS → Option Out} {l0 l1 : Option AV} {L2 : List (Nat × AV)} {St : List AV} {S : SS} : ev c 55 40 [l0, l1] L2 St S = ev c 55 41 [l0, l1] L2 (aI 2 :: St) S := ev_go i55_40 rfl
theorem i55_41 : insAt 55 41 = some (.invokestatic 28, 3, (0, 5, 21, 0), 153) := rfl
theorem s55_41 {c : Nat → List AV → SS → Option Out} {l0 l1 : Option AV} {x dp sp : Int32} {d s : OId} {L2 : List (Nat × AV)} {S : SS} : ev c 55 41 [l0, l1] L2 [aI x, aI dp, aR d, aI sp, aR s] S = kA (acp S s sp d dp x) (fun S' => ev c 55 44 [l0, l1] L2 [] S') := ev_acopy rfl i55_41 (by decide)
theorem i55_44 : insAt 55 44 = some (.aload_n 1, 1, (0, 0, 0, 0), 0) := rfl
theorem s55_44 {c : Nat → List AV → SS → Option Out} {l0 : Option AV} {o : OId} {L2 : List (Nat × AV)} {St : List AV} {S : SS} : ev c 55 44 [l0, some (aR o)] L2 St S = ev c 55 45 [l0, some (aR o)] L2 (aR o :: St) S := ev_go i55_44 rfl
theorem i55_45 : insAt 55 45 = some (.getfield 25, 3, (7, 4, 0, 0), 43) := rfl
theorem s55_45 {c : Nat → List AV → SS → Option Out} {l0 l1 : Option AV} {j t : Nat} {L2 : List (Nat × AV)} {St : List AV} {S : SS} : ev c 55 45 [l0, l1] L2 (aR (7, j, t) :: St) S = ev c 55 48 [l0, l1] L2 (S.2.2.1 (7, j, t) 4 :: St) S := ev_go i55_45 rfl
theorem i55_48 : insAt 55 48 = some (.iconst 0, 1, (0, 0, 0, 0), 0) := rfl
theorem s55_48 {c : Nat → List AV → SS → Option Out} {l0 l1 : Option AV} {L2 : List (Nat × AV)} {St : List AV} {S : SS} : ev c 55 48 [l0, l1] L2 St S = ev c 55 49 [l0, l1] L2 (aI 0 :: St) S := ev_go i55_48 rfl
theorem i55_49 : insAt 55 49 = some (.aload_n 0, 1, (0, 0, 0, 0), 0) := rfl
theorem s55_49 {c : Nat → List AV → SS → Option Out} {l1 : Option AV} {o : OId} {L2 : List (Nat × AV)} {St : List AV} {S : SS} : ev c 55 49 [some (aR o), l1] L2 St S = ev c 55 50 [some (aR o), l1] L2 (aR o :: St) S := ev_go i55_49 rfl
theorem i55_50 : insAt 55 50 = some (.getfield 25, 3, (7, 4, 0, 0), 43) := rfl
theorem s55_50 {c : Nat → List AV → SS → Option Out} {l0 l1 : Option AV} {j t : Nat} {L2 : List (Nat × AV)} {St : List AV} {S : SS} : ev c 55 50 [l0, l1] L2 (aR (7, j, t) :: St) S = ev c 55 53 [l0, l1] L2 (S.2.2.1 (7, j, t) 4 :: St) S := ev_go i55_50 rfl
theorem i55_53 : insAt 55 53 = some (.iconst 0, 1, (0, 0, 0, 0), 0) := rfl
theorem s55_53 {c : Nat → List AV → SS → Option Out} {l0 l1 : Option AV} {L2 : List (Nat × AV)} {St : List AV} {S : SS} : ev c 55 53 [l0, l1] L2 St S = ev c 55 54 [l0, l1] L2 (aI 0 :: St) S := ev_go i55_53 rfl
theorem i55_54 : insAt 55 54 = some (.iconst 2, 1, (0, 0, 0, 0), 0) := rfl
theorem s55_54 {c : Nat → List AV → SS → Option Out} {l0 l1 : Option AV} {L2 : List (Nat × AV)} {St : List AV} {S : SS} : ev c 55 54 [l0, l1] L2 St S = ev c 55 55 [l0, l1] L2 (aI 2 :: St) S := ev_go i55_54 rfl
theorem i55_55 : insAt 55 55 = some (.invokestatic 28, 3, (0, 5, 21, 0), 153) := rfl
theorem s55_55 {c : Nat → List AV → SS → Option Out} {l0 l1 : Option AV} {x dp sp : Int32} {d s : OId} {L2 : List (Nat × AV)} {S : SS} : ev c 55 55 [l0, l1] L2 [aI x, aI dp, aR d, aI sp, aR s] S = kA (acp S s sp d dp x) (fun S' => ev c 55 58 [l0, l1] L2 [] S') := ev_acopy rfl i55_55 (by decide)
theorem i55_58 : insAt 55 58 = some (.return_, 1, (0, 0, 0, 0), 0) := rfl
theorem s55_58 {c : Nat → List AV → SS → Option Out} {l0 l1 : Option AV} {L2 : List (Nat × AV)} {S : SS} : ev c 55 58 [l0, l1] L2 [] S = some (.inl none, S) := ev_end i55_58 rfl
theorem m55 {d : Nat} {o : OId} {a0 : OId} {S : SS} : evm (d + 1) 55 [aR o, aR a0] S = ev (evm d) 55 0 [some (aR o), some (aR a0)] [] [] S := evm_s (n := 2) rfl (Nat.le_of_ble_eq_true rfl) rfl rfl
/-! FrequencyOffice$History.keep(LFrequencyOffice$Books;)V -/
theorem i59_0 : insAt 59 0 = some (.aload_n 0, 1, (0, 0, 0, 0), 0) := rfl
theorem s59_0 {c : Nat → List AV → SS → Option Out} {l1 l2 : Option AV} {o : OId} {L2 : List (Nat × AV)} {St : List AV} {S : SS} : ev c 59 0 [some (aR o), l1, l2] L2 St S = ev c 59 1 [some (aR o), l1, l2] L2 (aR o :: St) S := ev_go i59_0 rfl
theorem i59_1 : insAt 59 1 = some (.aload_n 0, 1, (0, 0, 0, 0), 0) := rfl
theorem s59_1 {c : Nat → List AV → SS → Option Out} {l1 l2 : Option AV} {o : OId} {L2 : List (Nat × AV)} {St : List AV} {S : SS} : ev c 59 1 [some (aR o), l1, l2] L2 St S = ev c 59 2 [some (aR o), l1, l2] L2 (aR o :: St) S := ev_go i59_1 rfl
theorem i59_2 : insAt 59 2 = some (.getfield 17, 3, (5, 1, 0, 0), 47) := rfl
theorem s59_2 {c : Nat → List AV → SS → Option Out} {l0 l1 l2 : Option AV} {j t : Nat} {L2 : List (Nat × AV)} {St : List AV} {S : SS} : ev c 59 2 [l0, l1, l2] L2 (aR (5, j, t) :: St) S = ev c 59 5 [l0, l1, l2] L2 (aI (S.1 (5, j, t) 1) :: St) S := ev_go i59_2 rfl
theorem i59_5 : insAt 59 5 = some (.invokevirtual 25, 3, (60, 1, 2, 5), 159) := rfl
theorem s59_5 {c : Nat → List AV → SS → Option Out} {l0 l1 l2 : Option AV} {a0 : Int32} {j t : Nat} {L2 : List (Nat × AV)} {S : SS} : ev c 59 5 [l0, l1, l2] L2 [aI a0, aR (5, j, t)] S = ck (c 60 [aR (5, j, t), aI a0] S) (fun v S' => ev c 59 8 [l0, l1, l2] L2 (v.toList ++ []) S') := ev_call i59_5 rfl
theorem i59_8 : insAt 59 8 = some (.astore_n 2, 1, (0, 0, 0, 0), 0) := rfl
theorem s59_8 {c : Nat → List AV → SS → Option Out} {l0 l1 l2 : Option AV} {o : OId} {L2 : List (Nat × AV)} {St : List AV} {S : SS} : ev c 59 8 [l0, l1, l2] L2 (aR o :: St) S = ev c 59 9 [l0, l1, some (aR o)] (kil L2 2) St S := ev_go i59_8 rfl
theorem i59_9 : insAt 59 9 = some (.aload_n 2, 1, (0, 0, 0, 0), 0) := rfl
theorem s59_9 {c : Nat → List AV → SS → Option Out} {l0 l1 : Option AV} {o : OId} {L2 : List (Nat × AV)} {St : List AV} {S : SS} : ev c 59 9 [l0, l1, some (aR o)] L2 St S = ev c 59 10 [l0, l1, some (aR o)] L2 (aR o :: St) S := ev_go i59_9 rfl
theorem i59_10 : insAt 59 10 = some (.ifnull 8, 3, (0, 0, 0, 0), 0) := rfl
theorem s59_10 {c : Nat → List AV → SS → Option Out} {l0 l1 l2 : Option AV} {j t : Nat} {L2 : List (Nat × AV)} {St : List AV} {S : SS} : ev c 59 10 [l0, l1, l2] L2 (aR (4, j, t) :: St) S = ev c 59 13 [l0, l1, l2] L2 St S := ev_go i59_10 rfl
theorem s59_10N {c : Nat → List AV → SS → Option Out} {l0 l1 l2 : Option AV} {L2 : List (Nat × AV)} {St : List AV} {S : SS} : ev c 59 10 [l0, l1, l2] L2 (aN :: St) S = ev c 59 18 [l0, l1, l2] L2 St S := ev_go i59_10 rfl
theorem i59_13 : insAt 59 13 = some (.aload_n 2, 1, (0, 0, 0, 0), 0) := rfl
theorem s59_13 {c : Nat → List AV → SS → Option Out} {l0 l1 : Option AV} {o : OId} {L2 : List (Nat × AV)} {St : List AV} {S : SS} : ev c 59 13 [l0, l1, some (aR o)] L2 St S = ev c 59 14 [l0, l1, some (aR o)] L2 (aR o :: St) S := ev_go i59_13 rfl
theorem i59_14 : insAt 59 14 = some (.aload_n 1, 1, (0, 0, 0, 0), 0) := rfl
theorem s59_14 {c : Nat → List AV → SS → Option Out} {l0 l2 : Option AV} {o : OId} {L2 : List (Nat × AV)} {St : List AV} {S : SS} : ev c 59 14 [l0, some (aR o), l2] L2 St S = ev c 59 15 [l0, some (aR o), l2] L2 (aR o :: St) S := ev_go i59_14 rfl
theorem i59_15 : insAt 59 15 = some (.invokevirtual 29, 3, (53, 1, 3, 4), 160) := rfl
theorem s59_15 {c : Nat → List AV → SS → Option Out} {l0 l1 l2 : Option AV} {a0 : OId} {j t : Nat} {L2 : List (Nat × AV)} {S : SS} : ev c 59 15 [l0, l1, l2] L2 [aR a0, aR (4, j, t)] S = ck (c 53 [aR (4, j, t), aR a0] S) (fun v S' => ev c 59 18 [l0, l1, l2] L2 (v.toList ++ []) S') := ev_call i59_15 rfl
theorem i59_18 : insAt 59 18 = some (.aload_n 0, 1, (0, 0, 0, 0), 0) := rfl
theorem s59_18 {c : Nat → List AV → SS → Option Out} {l1 l2 : Option AV} {o : OId} {L2 : List (Nat × AV)} {St : List AV} {S : SS} : ev c 59 18 [some (aR o), l1, l2] L2 St S = ev c 59 19 [some (aR o), l1, l2] L2 (aR o :: St) S := ev_go i59_18 rfl
theorem i59_19 : insAt 59 19 = some (.aload_n 0, 1, (0, 0, 0, 0), 0) := rfl
theorem s59_19 {c : Nat → List AV → SS → Option Out} {l1 l2 : Option AV} {o : OId} {L2 : List (Nat × AV)} {St : List AV} {S : SS} : ev c 59 19 [some (aR o), l1, l2] L2 St S = ev c 59 20 [some (aR o), l1, l2] L2 (aR o :: St) S := ev_go i59_19 rfl
theorem i59_20 : insAt 59 20 = some (.getfield 17, 3, (5, 1, 0, 0), 47) := rfl
theorem s59_20 {c : Nat → List AV → SS → Option Out} {l0 l1 l2 : Option AV} {j t : Nat} {L2 : List (Nat × AV)} {St : List AV} {S : SS} : ev c 59 20 [l0, l1, l2] L2 (aR (5, j, t) :: St) S = ev c 59 23 [l0, l1, l2] L2 (aI (S.1 (5, j, t) 1) :: St) S := ev_go i59_20 rfl
theorem i59_23 : insAt 59 23 = some (.iconst 5, 1, (0, 0, 0, 0), 0) := rfl
theorem s59_23 {c : Nat → List AV → SS → Option Out} {l0 l1 l2 : Option AV} {L2 : List (Nat × AV)} {St : List AV} {S : SS} : ev c 59 23 [l0, l1, l2] L2 St S = ev c 59 24 [l0, l1, l2] L2 (aI 5 :: St) S := ev_go i59_23 rfl
theorem i59_24 : insAt 59 24 = some (.if_icmp .lt 7, 3, (0, 0, 0, 0), 0) := rfl
theorem s59_24 {c : Nat → List AV → SS → Option Out} {l0 l1 l2 : Option AV} {x y : Int32} {L2 : List (Nat × AV)} {St : List AV} {S : SS} : ev c 59 24 [l0, l1, l2] L2 (aI y :: aI x :: St) S = if x < y then ev c 59 31 [l0, l1, l2] L2 St S else ev c 59 27 [l0, l1, l2] L2 St S := ev_br i59_24 rfl
theorem i59_27 : insAt 59 27 = some (.iconst 0, 1, (0, 0, 0, 0), 0) := rfl
theorem s59_27 {c : Nat → List AV → SS → Option Out} {l0 l1 l2 : Option AV} {L2 : List (Nat × AV)} {St : List AV} {S : SS} : ev c 59 27 [l0, l1, l2] L2 St S = ev c 59 28 [l0, l1, l2] L2 (aI 0 :: St) S := ev_go i59_27 rfl
theorem i59_28 : insAt 59 28 = some (.goto 9, 3, (0, 0, 0, 0), 0) := rfl
theorem s59_28 {c : Nat → List AV → SS → Option Out} {l0 l1 l2 : Option AV} {L2 : List (Nat × AV)} {St : List AV} {S : SS} : ev c 59 28 [l0, l1, l2] L2 St S = ev c 59 37 [l0, l1, l2] L2 St S := ev_go i59_28 rfl
theorem i59_31 : insAt 59 31 = some (.aload_n 0, 1, (0, 0, 0, 0), 0) := rfl
theorem s59_31 {c : Nat → List AV → SS → Option Out} {l1 l2 : Option AV} {o : OId} {L2 : List (Nat × AV)} {St : List AV} {S : SS} : ev c 59 31 [some (aR o), l1, l2] L2 St S = ev c 59 32 [some (aR o), l1, l2] L2 (aR o :: St) S := ev_go i59_31 rfl
theorem i59_32 : insAt 59 32 = some (.getfield 17, 3, (5, 1, 0, 0), 47) := rfl
theorem s59_32 {c : Nat → List AV → SS → Option Out} {l0 l1 l2 : Option AV} {j t : Nat} {L2 : List (Nat × AV)} {St : List AV} {S : SS} : ev c 59 32 [l0, l1, l2] L2 (aR (5, j, t) :: St) S = ev c 59 35 [l0, l1, l2] L2 (aI (S.1 (5, j, t) 1) :: St) S := ev_go i59_32 rfl
theorem i59_35 : insAt 59 35 = some (.iconst 1, 1, (0, 0, 0, 0), 0) := rfl
theorem s59_35 {c : Nat → List AV → SS → Option Out} {l0 l1 l2 : Option AV} {L2 : List (Nat × AV)} {St : List AV} {S : SS} : ev c 59 35 [l0, l1, l2] L2 St S = ev c 59 36 [l0, l1, l2] L2 (aI 1 :: St) S := ev_go i59_35 rfl
theorem i59_36 : insAt 59 36 = some (.iadd, 1, (0, 0, 0, 0), 0) := rfl
theorem s59_36 {c : Nat → List AV → SS → Option Out} {l0 l1 l2 : Option AV} {x y : Int32} {L2 : List (Nat × AV)} {St : List AV} {S : SS} : ev c 59 36 [l0, l1, l2] L2 (aI y :: aI x :: St) S = ev c 59 37 [l0, l1, l2] L2 (aI (x + y) :: St) S := ev_go i59_36 rfl
theorem i59_37 : insAt 59 37 = some (.putfield 17, 3, (5, 1, 0, 0), 47) := rfl
theorem s59_37 {c : Nat → List AV → SS → Option Out} {l0 l1 l2 : Option AV} {j t : Nat} {x : Int32} {L2 : List (Nat × AV)} {St : List AV} {S : SS} : ev c 59 37 [l0, l1, l2] L2 (aI x :: aR (5, j, t) :: St) S = ev c 59 40 [l0, l1, l2] L2 St (setI S.1 (5, j, t) 1 x, S.2) := ev_go i59_37 rfl
theorem i59_40 : insAt 59 40 = some (.aload_n 0, 1, (0, 0, 0, 0), 0) := rfl
theorem s59_40 {c : Nat → List AV → SS → Option Out} {l1 l2 : Option AV} {o : OId} {L2 : List (Nat × AV)} {St : List AV} {S : SS} : ev c 59 40 [some (aR o), l1, l2] L2 St S = ev c 59 41 [some (aR o), l1, l2] L2 (aR o :: St) S := ev_go i59_40 rfl
theorem i59_41 : insAt 59 41 = some (.aload_n 0, 1, (0, 0, 0, 0), 0) := rfl
theorem s59_41 {c : Nat → List AV → SS → Option Out} {l1 l2 : Option AV} {o : OId} {L2 : List (Nat × AV)} {St : List AV} {S : SS} : ev c 59 41 [some (aR o), l1, l2] L2 St S = ev c 59 42 [some (aR o), l1, l2] L2 (aR o :: St) S := ev_go i59_41 rfl
theorem i59_42 : insAt 59 42 = some (.getfield 21, 3, (5, 2, 0, 0), 48) := rfl
theorem s59_42 {c : Nat → List AV → SS → Option Out} {l0 l1 l2 : Option AV} {j t : Nat} {L2 : List (Nat × AV)} {St : List AV} {S : SS} : ev c 59 42 [l0, l1, l2] L2 (aR (5, j, t) :: St) S = ev c 59 45 [l0, l1, l2] L2 (aI (S.1 (5, j, t) 2) :: St) S := ev_go i59_42 rfl
theorem i59_45 : insAt 59 45 = some (.iconst 1, 1, (0, 0, 0, 0), 0) := rfl
theorem s59_45 {c : Nat → List AV → SS → Option Out} {l0 l1 l2 : Option AV} {L2 : List (Nat × AV)} {St : List AV} {S : SS} : ev c 59 45 [l0, l1, l2] L2 St S = ev c 59 46 [l0, l1, l2] L2 (aI 1 :: St) S := ev_go i59_45 rfl
theorem i59_46 : insAt 59 46 = some (.iadd, 1, (0, 0, 0, 0), 0) := rfl
theorem s59_46 {c : Nat → List AV → SS → Option Out} {l0 l1 l2 : Option AV} {x y : Int32} {L2 : List (Nat × AV)} {St : List AV} {S : SS} : ev c 59 46 [l0, l1, l2] L2 (aI y :: aI x :: St) S = ev c 59 47 [l0, l1, l2] L2 (aI (x + y) :: St) S := ev_go i59_46 rfl
theorem i59_47 : insAt 59 47 = some (.bipush 6, 2, (0, 0, 0, 0), 0) := rfl
theorem s59_47 {c : Nat → List AV → SS → Option Out} {l0 l1 l2 : Option AV} {L2 : List (Nat × AV)} {St : List AV} {S : SS} : ev c 59 47 [l0, l1, l2] L2 St S = ev c 59 49 [l0, l1, l2] L2 (aI 6 :: St) S := ev_go i59_47 rfl
theorem i59_49 : insAt 59 49 = some (.invokestatic 33, 3, (0, 2, 24, 0), 161) := rfl
theorem s59_49 {c : Nat → List AV → SS → Option Out} {l0 l1 l2 : Option AV} {t0 : AV} {x y : Int32} {L2 : List (Nat × AV)} {S : SS} : ev c 59 49 [l0, l1, l2] L2 [aI y, aI x, t0] S = ev c 59 52 [l0, l1, l2] L2 [aI (if y < x then y else x), t0] S := ev_go i59_49 rfl
theorem i59_52 : insAt 59 52 = some (.putfield 21, 3, (5, 2, 0, 0), 48) := rfl
theorem s59_52 {c : Nat → List AV → SS → Option Out} {l0 l1 l2 : Option AV} {j t : Nat} {x : Int32} {L2 : List (Nat × AV)} {St : List AV} {S : SS} : ev c 59 52 [l0, l1, l2] L2 (aI x :: aR (5, j, t) :: St) S = ev c 59 55 [l0, l1, l2] L2 St (setI S.1 (5, j, t) 2 x, S.2) := ev_go i59_52 rfl
theorem i59_55 : insAt 59 55 = some (.return_, 1, (0, 0, 0, 0), 0) := rfl
theorem s59_55 {c : Nat → List AV → SS → Option Out} {l0 l1 l2 : Option AV} {L2 : List (Nat × AV)} {S : SS} : ev c 59 55 [l0, l1, l2] L2 [] S = some (.inl none, S) := ev_end i59_55 rfl
theorem m59 {d : Nat} {o : OId} {a0 : OId} {S : SS} : evm (d + 1) 59 [aR o, aR a0] S = ev (evm d) 59 0 [some (aR o), some (aR a0), none] [] [] S := evm_s (n := 3) rfl (Nat.le_of_ble_eq_true rfl) rfl rfl
/-! FrequencyOffice$History.pastAt(I)LFrequencyOffice$Books; -/
theorem i60_0 : insAt 60 0 = some (.iload_n 1, 1, (0, 0, 0, 0), 0) := rfl
theorem s60_0 {c : Nat → List AV → SS → Option Out} {l0 : Option AV} {x : Int32} {L2 : List (Nat × AV)} {St : List AV} {S : SS} : ev c 60 0 [l0, some (aI x)] L2 St S = ev c 60 1 [l0, some (aI x)] L2 (aI x :: St) S := ev_go i60_0 rfl
theorem i60_1 : insAt 60 1 = some (.ifCond .lt 21, 3, (0, 0, 0, 0), 0) := rfl
theorem s60_1 {c : Nat → List AV → SS → Option Out} {l0 l1 : Option AV} {x : Int32} {L2 : List (Nat × AV)} {St : List AV} {S : SS} : ev c 60 1 [l0, l1] L2 (aI x :: St) S = if x < 0 then ev c 60 22 [l0, l1] L2 St S else ev c 60 4 [l0, l1] L2 St S := ev_br i60_1 rfl
theorem i60_4 : insAt 60 4 = some (.iload_n 1, 1, (0, 0, 0, 0), 0) := rfl
theorem s60_4 {c : Nat → List AV → SS → Option Out} {l0 : Option AV} {x : Int32} {L2 : List (Nat × AV)} {St : List AV} {S : SS} : ev c 60 4 [l0, some (aI x)] L2 St S = ev c 60 5 [l0, some (aI x)] L2 (aI x :: St) S := ev_go i60_4 rfl
theorem i60_5 : insAt 60 5 = some (.aload_n 0, 1, (0, 0, 0, 0), 0) := rfl
theorem s60_5 {c : Nat → List AV → SS → Option Out} {l1 : Option AV} {o : OId} {L2 : List (Nat × AV)} {St : List AV} {S : SS} : ev c 60 5 [some (aR o), l1] L2 St S = ev c 60 6 [some (aR o), l1] L2 (aR o :: St) S := ev_go i60_5 rfl
theorem i60_6 : insAt 60 6 = some (.getfield 11, 3, (5, 0, 0, 0), 46) := rfl
theorem s60_6 {c : Nat → List AV → SS → Option Out} {l0 l1 : Option AV} {j t : Nat} {L2 : List (Nat × AV)} {St : List AV} {S : SS} : ev c 60 6 [l0, l1] L2 (aR (5, j, t) :: St) S = ev c 60 9 [l0, l1] L2 (S.2.2.1 (5, j, t) 0 :: St) S := ev_go i60_6 rfl
theorem i60_9 : insAt 60 9 = some (.arraylength, 1, (0, 0, 0, 0), 0) := rfl
theorem s60_9 {c : Nat → List AV → SS → Option Out} {l0 l1 : Option AV} {o : OId} {L2 : List (Nat × AV)} {St : List AV} {S : SS} : ev c 60 9 [l0, l1] L2 (aR o :: St) S = kN o (fun x => ev c 60 10 [l0, l1] L2 (aI x :: St) S) := ev_alen i60_9
theorem i60_10 : insAt 60 10 = some (.if_icmp .ge 12, 3, (0, 0, 0, 0), 0) := rfl
theorem s60_10 {c : Nat → List AV → SS → Option Out} {l0 l1 : Option AV} {x y : Int32} {L2 : List (Nat × AV)} {St : List AV} {S : SS} : ev c 60 10 [l0, l1] L2 (aI y :: aI x :: St) S = if y ≤ x then ev c 60 22 [l0, l1] L2 St S else ev c 60 13 [l0, l1] L2 St S := ev_br i60_10 rfl
theorem i60_13 : insAt 60 13 = some (.aload_n 0, 1, (0, 0, 0, 0), 0) := rfl
theorem s60_13 {c : Nat → List AV → SS → Option Out} {l1 : Option AV} {o : OId} {L2 : List (Nat × AV)} {St : List AV} {S : SS} : ev c 60 13 [some (aR o), l1] L2 St S = ev c 60 14 [some (aR o), l1] L2 (aR o :: St) S := ev_go i60_13 rfl
theorem i60_14 : insAt 60 14 = some (.getfield 11, 3, (5, 0, 0, 0), 46) := rfl
theorem s60_14 {c : Nat → List AV → SS → Option Out} {l0 l1 : Option AV} {j t : Nat} {L2 : List (Nat × AV)} {St : List AV} {S : SS} : ev c 60 14 [l0, l1] L2 (aR (5, j, t) :: St) S = ev c 60 17 [l0, l1] L2 (S.2.2.1 (5, j, t) 0 :: St) S := ev_go i60_14 rfl
theorem i60_17 : insAt 60 17 = some (.iload_n 1, 1, (0, 0, 0, 0), 0) := rfl
theorem s60_17 {c : Nat → List AV → SS → Option Out} {l0 : Option AV} {x : Int32} {L2 : List (Nat × AV)} {St : List AV} {S : SS} : ev c 60 17 [l0, some (aI x)] L2 St S = ev c 60 18 [l0, some (aI x)] L2 (aI x :: St) S := ev_go i60_17 rfl
theorem i60_18 : insAt 60 18 = some (.aaload, 1, (0, 0, 0, 0), 0) := rfl
theorem s60_18 {c : Nat → List AV → SS → Option Out} {l0 l1 : Option AV} {i : Int32} {o : OId} {L2 : List (Nat × AV)} {St : List AV} {S : SS} : ev c 60 18 [l0, l1] L2 (aI i :: aR o :: St) S = kQ o i (ev c 60 19 [l0, l1] L2 (S.2.2.1 o i.toNatClampNeg :: St) S) := ev_aaload i60_18
theorem i60_19 : insAt 60 19 = some (.goto 4, 3, (0, 0, 0, 0), 0) := rfl
theorem s60_19 {c : Nat → List AV → SS → Option Out} {l0 l1 : Option AV} {L2 : List (Nat × AV)} {St : List AV} {S : SS} : ev c 60 19 [l0, l1] L2 St S = ev c 60 23 [l0, l1] L2 St S := ev_go i60_19 rfl
theorem i60_22 : insAt 60 22 = some (.aconst_null, 1, (0, 0, 0, 0), 0) := rfl
theorem s60_22 {c : Nat → List AV → SS → Option Out} {l0 l1 : Option AV} {L2 : List (Nat × AV)} {St : List AV} {S : SS} : ev c 60 22 [l0, l1] L2 St S = ev c 60 23 [l0, l1] L2 (aN :: St) S := ev_go i60_22 rfl
theorem i60_23 : insAt 60 23 = some (.areturn, 1, (0, 0, 0, 0), 0) := rfl
theorem s60_23 {c : Nat → List AV → SS → Option Out} {l0 l1 : Option AV} {o : OId} {L2 : List (Nat × AV)} {S : SS} : ev c 60 23 [l0, l1] L2 [aR o] S = some (.inl (some (aR o)), S) := ev_end i60_23 rfl
theorem s60_23N {c : Nat → List AV → SS → Option Out} {l0 l1 : Option AV} {L2 : List (Nat × AV)} {S : SS} : ev c 60 23 [l0, l1] L2 [aN] S = some (.inl (some aN), S) := ev_end i60_23 rfl
theorem m60 {d : Nat} {o : OId} {a0 : Int32} {S : SS} : evm (d + 1) 60 [aR o, aI a0] S = ev (evm d) 60 0 [some (aR o), some (aI a0)] [] [] S := evm_s (n := 2) rfl (Nat.le_of_ble_eq_true rfl) rfl rfl
/-! FrequencyOffice$Search.serveNew(LFrequencyOffice$Books;II)V -/
theorem i65_0 : insAt 65 0 = some (.aload_n 0, 1, (0, 0, 0, 0), 0) := rfl
theorem s65_0 {c : Nat → List AV → SS → Option Out} {l1 l2 l3 l4 l5 : Option AV} {o : OId} {L2 : List (Nat × AV)} {St : List AV} {S : SS} : ev c 65 0 [some (aR o), l1, l2, l3, l4, l5] L2 St S = ev c 65 1 [some (aR o), l1, l2, l3, l4, l5] L2 (aR o :: St) S := ev_go i65_0 rfl
theorem i65_1 : insAt 65 1 = some (.sipush 255, 3, (0, 0, 0, 0), 0) := rfl
theorem s65_1 {c : Nat → List AV → SS → Option Out} {l0 l1 l2 l3 l4 l5 : Option AV} {L2 : List (Nat × AV)} {St : List AV} {S : SS} : ev c 65 1 [l0, l1, l2, l3, l4, l5] L2 St S = ev c 65 4 [l0, l1, l2, l3, l4, l5] L2 (aI 255 :: St) S := ev_go i65_1 rfl
theorem i65_4 : insAt 65 4 = some (.putfield 29, 3, (8, 5, 0, 0), 63) := rfl
theorem s65_4 {c : Nat → List AV → SS → Option Out} {l0 l1 l2 l3 l4 l5 : Option AV} {j t : Nat} {x : Int32} {L2 : List (Nat × AV)} {St : List AV} {S : SS} : ev c 65 4 [l0, l1, l2, l3, l4, l5] L2 (aI x :: aR (8, j, t) :: St) S = ev c 65 7 [l0, l1, l2, l3, l4, l5] L2 St (setI S.1 (8, j, t) 5 x, S.2) := ev_go i65_4 rfl
theorem i65_7 : insAt 65 7 = some (.aload_n 0, 1, (0, 0, 0, 0), 0) := rfl
theorem s65_7 {c : Nat → List AV → SS → Option Out} {l1 l2 l3 l4 l5 : Option AV} {o : OId} {L2 : List (Nat × AV)} {St : List AV} {S : SS} : ev c 65 7 [some (aR o), l1, l2, l3, l4, l5] L2 St S = ev c 65 8 [some (aR o), l1, l2, l3, l4, l5] L2 (aR o :: St) S := ev_go i65_7 rfl
theorem i65_8 : insAt 65 8 = some (.iconst (-1), 1, (0, 0, 0, 0), 0) := rfl
theorem s65_8 {c : Nat → List AV → SS → Option Out} {l0 l1 l2 l3 l4 l5 : Option AV} {L2 : List (Nat × AV)} {St : List AV} {S : SS} : ev c 65 8 [l0, l1, l2, l3, l4, l5] L2 St S = ev c 65 9 [l0, l1, l2, l3, l4, l5] L2 (aI (-1) :: St) S := ev_go i65_8 rfl
theorem i65_9 : insAt 65 9 = some (.putfield 33, 3, (8, 6, 0, 0), 64) := rfl
theorem s65_9 {c : Nat → List AV → SS → Option Out} {l0 l1 l2 l3 l4 l5 : Option AV} {j t : Nat} {x : Int32} {L2 : List (Nat × AV)} {St : List AV} {S : SS} : ev c 65 9 [l0, l1, l2, l3, l4, l5] L2 (aI x :: aR (8, j, t) :: St) S = ev c 65 12 [l0, l1, l2, l3, l4, l5] L2 St (setI S.1 (8, j, t) 6 x, S.2) := ev_go i65_9 rfl
theorem i65_12 : insAt 65 12 = some (.aload_n 0, 1, (0, 0, 0, 0), 0) := rfl
theorem s65_12 {c : Nat → List AV → SS → Option Out} {l1 l2 l3 l4 l5 : Option AV} {o : OId} {L2 : List (Nat × AV)} {St : List AV} {S : SS} : ev c 65 12 [some (aR o), l1, l2, l3, l4, l5] L2 St S = ev c 65 13 [some (aR o), l1, l2, l3, l4, l5] L2 (aR o :: St) S := ev_go i65_12 rfl
theorem i65_13 : insAt 65 13 = some (.getfield 36, 3, (8, 0, 0, 0), 65) := rfl
theorem s65_13 {c : Nat → List AV → SS → Option Out} {l0 l1 l2 l3 l4 l5 : Option AV} {j t : Nat} {L2 : List (Nat × AV)} {St : List AV} {S : SS} : ev c 65 13 [l0, l1, l2, l3, l4, l5] L2 (aR (8, j, t) :: St) S = ev c 65 16 [l0, l1, l2, l3, l4, l5] L2 (S.2.2.1 (8, j, t) 0 :: St) S := ev_go i65_13 rfl
theorem i65_16 : insAt 65 16 = some (.aload_n 1, 1, (0, 0, 0, 0), 0) := rfl
theorem s65_16 {c : Nat → List AV → SS → Option Out} {l0 l2 l3 l4 l5 : Option AV} {o : OId} {L2 : List (Nat × AV)} {St : List AV} {S : SS} : ev c 65 16 [l0, some (aR o), l2, l3, l4, l5] L2 St S = ev c 65 17 [l0, some (aR o), l2, l3, l4, l5] L2 (aR o :: St) S := ev_go i65_16 rfl
theorem i65_17 : insAt 65 17 = some (.iconst (-1), 1, (0, 0, 0, 0), 0) := rfl
theorem s65_17 {c : Nat → List AV → SS → Option Out} {l0 l1 l2 l3 l4 l5 : Option AV} {L2 : List (Nat × AV)} {St : List AV} {S : SS} : ev c 65 17 [l0, l1, l2, l3, l4, l5] L2 St S = ev c 65 18 [l0, l1, l2, l3, l4, l5] L2 (aI (-1) :: St) S := ev_go i65_17 rfl
theorem i65_18 : insAt 65 18 = some (.invokevirtual 40, 3, (33, 2, 3, 6), 171) := rfl
theorem s65_18 {c : Nat → List AV → SS → Option Out} {l0 l1 l2 l3 l4 l5 : Option AV} {a0 : OId} {a1 : Int32} {j t : Nat} {L2 : List (Nat × AV)} {S : SS} : ev c 65 18 [l0, l1, l2, l3, l4, l5] L2 [aI a1, aR a0, aR (6, j, t)] S = ck (c 33 [aR (6, j, t), aR a0, aI a1] S) (fun v S' => ev c 65 21 [l0, l1, l2, l3, l4, l5] L2 (v.toList ++ []) S') := ev_call i65_18 rfl
theorem i65_21 : insAt 65 21 = some (.iconst 0, 1, (0, 0, 0, 0), 0) := rfl
theorem s65_21 {c : Nat → List AV → SS → Option Out} {l0 l1 l2 l3 l4 l5 : Option AV} {L2 : List (Nat × AV)} {St : List AV} {S : SS} : ev c 65 21 [l0, l1, l2, l3, l4, l5] L2 St S = ev c 65 22 [l0, l1, l2, l3, l4, l5] L2 (aI 0 :: St) S := ev_go i65_21 rfl
theorem i65_22 : insAt 65 22 = some (.istore 4, 2, (0, 0, 0, 0), 0) := rfl
theorem s65_22 {c : Nat → List AV → SS → Option Out} {l0 l1 l2 l3 l4 l5 : Option AV} {x : Int32} {L2 : List (Nat × AV)} {St : List AV} {S : SS} : ev c 65 22 [l0, l1, l2, l3, l4, l5] L2 (aI x :: St) S = ev c 65 24 [l0, l1, l2, l3, some (aI x), l5] (kil L2 4) St S := ev_go i65_22 rfl
theorem i65_24 : insAt 65 24 = some (.iload 4, 2, (0, 0, 0, 0), 0) := rfl
theorem s65_24 {c : Nat → List AV → SS → Option Out} {l0 l1 l2 l3 l5 : Option AV} {x : Int32} {L2 : List (Nat × AV)} {St : List AV} {S : SS} : ev c 65 24 [l0, l1, l2, l3, some (aI x), l5] L2 St S = ev c 65 26 [l0, l1, l2, l3, some (aI x), l5] L2 (aI x :: St) S := ev_go i65_24 rfl
theorem i65_26 : insAt 65 26 = some (.aload_n 0, 1, (0, 0, 0, 0), 0) := rfl
theorem s65_26 {c : Nat → List AV → SS → Option Out} {l1 l2 l3 l4 l5 : Option AV} {o : OId} {L2 : List (Nat × AV)} {St : List AV} {S : SS} : ev c 65 26 [some (aR o), l1, l2, l3, l4, l5] L2 St S = ev c 65 27 [some (aR o), l1, l2, l3, l4, l5] L2 (aR o :: St) S := ev_go i65_26 rfl
theorem i65_27 : insAt 65 27 = some (.getfield 36, 3, (8, 0, 0, 0), 65) := rfl
theorem s65_27 {c : Nat → List AV → SS → Option Out} {l0 l1 l2 l3 l4 l5 : Option AV} {j t : Nat} {L2 : List (Nat × AV)} {St : List AV} {S : SS} : ev c 65 27 [l0, l1, l2, l3, l4, l5] L2 (aR (8, j, t) :: St) S = ev c 65 30 [l0, l1, l2, l3, l4, l5] L2 (S.2.2.1 (8, j, t) 0 :: St) S := ev_go i65_27 rfl
theorem i65_30 : insAt 65 30 = some (.getfield 46, 3, (6, 0, 1, 0), 172) := rfl
theorem s65_30 {c : Nat → List AV → SS → Option Out} {l0 l1 l2 l3 l4 l5 : Option AV} {j t : Nat} {L2 : List (Nat × AV)} {St : List AV} {S : SS} : ev c 65 30 [l0, l1, l2, l3, l4, l5] L2 (aR (6, j, t) :: St) S = ev c 65 33 [l0, l1, l2, l3, l4, l5] L2 (aI (S.1 (6, j, t) 0) :: St) S := ev_go i65_30 rfl
theorem i65_33 : insAt 65 33 = some (.if_icmp .ge 63, 3, (0, 0, 0, 0), 0) := rfl
theorem s65_33 {c : Nat → List AV → SS → Option Out} {l0 l1 l2 l3 l4 l5 : Option AV} {x y : Int32} {L2 : List (Nat × AV)} {St : List AV} {S : SS} : ev c 65 33 [l0, l1, l2, l3, l4, l5] L2 (aI y :: aI x :: St) S = if y ≤ x then ev c 65 96 [l0, l1, l2, l3, l4, l5] L2 St S else ev c 65 36 [l0, l1, l2, l3, l4, l5] L2 St S := ev_br i65_33 rfl
theorem i65_36 : insAt 65 36 = some (.aload_n 1, 1, (0, 0, 0, 0), 0) := rfl
theorem s65_36 {c : Nat → List AV → SS → Option Out} {l0 l2 l3 l4 l5 : Option AV} {o : OId} {L2 : List (Nat × AV)} {St : List AV} {S : SS} : ev c 65 36 [l0, some (aR o), l2, l3, l4, l5] L2 St S = ev c 65 37 [l0, some (aR o), l2, l3, l4, l5] L2 (aR o :: St) S := ev_go i65_36 rfl
theorem i65_37 : insAt 65 37 = some (.aload_n 0, 1, (0, 0, 0, 0), 0) := rfl
theorem s65_37 {c : Nat → List AV → SS → Option Out} {l1 l2 l3 l4 l5 : Option AV} {o : OId} {L2 : List (Nat × AV)} {St : List AV} {S : SS} : ev c 65 37 [some (aR o), l1, l2, l3, l4, l5] L2 St S = ev c 65 38 [some (aR o), l1, l2, l3, l4, l5] L2 (aR o :: St) S := ev_go i65_37 rfl
theorem i65_38 : insAt 65 38 = some (.getfield 36, 3, (8, 0, 0, 0), 65) := rfl
theorem s65_38 {c : Nat → List AV → SS → Option Out} {l0 l1 l2 l3 l4 l5 : Option AV} {j t : Nat} {L2 : List (Nat × AV)} {St : List AV} {S : SS} : ev c 65 38 [l0, l1, l2, l3, l4, l5] L2 (aR (8, j, t) :: St) S = ev c 65 41 [l0, l1, l2, l3, l4, l5] L2 (S.2.2.1 (8, j, t) 0 :: St) S := ev_go i65_38 rfl
theorem i65_41 : insAt 65 41 = some (.getfield 49, 3, (6, 1, 1, 0), 173) := rfl
theorem s65_41 {c : Nat → List AV → SS → Option Out} {l0 l1 l2 l3 l4 l5 : Option AV} {j t : Nat} {L2 : List (Nat × AV)} {St : List AV} {S : SS} : ev c 65 41 [l0, l1, l2, l3, l4, l5] L2 (aR (6, j, t) :: St) S = ev c 65 44 [l0, l1, l2, l3, l4, l5] L2 (S.2.2.1 (6, j, t) 1 :: St) S := ev_go i65_41 rfl
theorem i65_44 : insAt 65 44 = some (.iload 4, 2, (0, 0, 0, 0), 0) := rfl
theorem s65_44 {c : Nat → List AV → SS → Option Out} {l0 l1 l2 l3 l5 : Option AV} {x : Int32} {L2 : List (Nat × AV)} {St : List AV} {S : SS} : ev c 65 44 [l0, l1, l2, l3, some (aI x), l5] L2 St S = ev c 65 46 [l0, l1, l2, l3, some (aI x), l5] L2 (aI x :: St) S := ev_go i65_44 rfl
theorem i65_46 : insAt 65 46 = some (.invokestatic 52, 3, (31, 2, 1, 0), 174) := rfl
theorem s65_46 {c : Nat → List AV → SS → Option Out} {l0 l1 l2 l3 l4 l5 : Option AV} {t0 : AV} {a0 : OId} {a1 : Int32} {L2 : List (Nat × AV)} {S : SS} : ev c 65 46 [l0, l1, l2, l3, l4, l5] L2 [aI a1, aR a0, t0] S = ck (c 31 [aR a0, aI a1] S) (fun v S' => ev c 65 49 [l0, l1, l2, l3, l4, l5] L2 (v.toList ++ [t0]) S') := ev_call i65_46 rfl
theorem i65_49 : insAt 65 49 = some (.invokevirtual 56, 3, (17, 1, 3, 4), 175) := rfl
theorem s65_49 {c : Nat → List AV → SS → Option Out} {l0 l1 l2 l3 l4 l5 : Option AV} {a0 : Int32} {j t : Nat} {L2 : List (Nat × AV)} {S : SS} : ev c 65 49 [l0, l1, l2, l3, l4, l5] L2 [aI a0, aR (4, j, t)] S = ck (c 17 [aR (4, j, t), aI a0] S) (fun v S' => ev c 65 52 [l0, l1, l2, l3, l4, l5] L2 (v.toList ++ []) S') := ev_call i65_49 rfl
theorem i65_52 : insAt 65 52 = some (.iload_n 2, 1, (0, 0, 0, 0), 0) := rfl
theorem s65_52 {c : Nat → List AV → SS → Option Out} {l0 l1 l3 l4 l5 : Option AV} {x : Int32} {L2 : List (Nat × AV)} {St : List AV} {S : SS} : ev c 65 52 [l0, l1, some (aI x), l3, l4, l5] L2 St S = ev c 65 53 [l0, l1, some (aI x), l3, l4, l5] L2 (aI x :: St) S := ev_go i65_52 rfl
theorem i65_53 : insAt 65 53 = some (.iload_n 3, 1, (0, 0, 0, 0), 0) := rfl
theorem s65_53 {c : Nat → List AV → SS → Option Out} {l0 l1 l2 l4 l5 : Option AV} {x : Int32} {L2 : List (Nat × AV)} {St : List AV} {S : SS} : ev c 65 53 [l0, l1, l2, some (aI x), l4, l5] L2 St S = ev c 65 54 [l0, l1, l2, some (aI x), l4, l5] L2 (aI x :: St) S := ev_go i65_53 rfl
theorem i65_54 : insAt 65 54 = some (.invokevirtual 62, 3, (27, 2, 3, 10), 176) := rfl
theorem s65_54 {c : Nat → List AV → SS → Option Out} {l0 l1 l2 l3 l4 l5 : Option AV} {a0 : Int32} {a1 : Int32} {j t : Nat} {L2 : List (Nat × AV)} {S : SS} : ev c 65 54 [l0, l1, l2, l3, l4, l5] L2 [aI a1, aI a0, aR (10, j, t)] S = ck (c 27 [aR (10, j, t), aI a0, aI a1] S) (fun v S' => ev c 65 57 [l0, l1, l2, l3, l4, l5] L2 (v.toList ++ []) S') := ev_call i65_54 rfl
theorem i65_57 : insAt 65 57 = some (.istore 5, 2, (0, 0, 0, 0), 0) := rfl
theorem s65_57 {c : Nat → List AV → SS → Option Out} {l0 l1 l2 l3 l4 l5 : Option AV} {x : Int32} {L2 : List (Nat × AV)} {St : List AV} {S : SS} : ev c 65 57 [l0, l1, l2, l3, l4, l5] L2 (aI x :: St) S = ev c 65 59 [l0, l1, l2, l3, l4, some (aI x)] (kil L2 5) St S := ev_go i65_57 rfl
theorem i65_59 : insAt 65 59 = some (.aload_n 0, 1, (0, 0, 0, 0), 0) := rfl
theorem s65_59 {c : Nat → List AV → SS → Option Out} {l1 l2 l3 l4 l5 : Option AV} {o : OId} {L2 : List (Nat × AV)} {St : List AV} {S : SS} : ev c 65 59 [some (aR o), l1, l2, l3, l4, l5] L2 St S = ev c 65 60 [some (aR o), l1, l2, l3, l4, l5] L2 (aR o :: St) S := ev_go i65_59 rfl
theorem i65_60 : insAt 65 60 = some (.iload 4, 2, (0, 0, 0, 0), 0) := rfl
theorem s65_60 {c : Nat → List AV → SS → Option Out} {l0 l1 l2 l3 l5 : Option AV} {x : Int32} {L2 : List (Nat × AV)} {St : List AV} {S : SS} : ev c 65 60 [l0, l1, l2, l3, some (aI x), l5] L2 St S = ev c 65 62 [l0, l1, l2, l3, some (aI x), l5] L2 (aI x :: St) S := ev_go i65_60 rfl
theorem i65_62 : insAt 65 62 = some (.aload_n 1, 1, (0, 0, 0, 0), 0) := rfl
theorem s65_62 {c : Nat → List AV → SS → Option Out} {l0 l2 l3 l4 l5 : Option AV} {o : OId} {L2 : List (Nat × AV)} {St : List AV} {S : SS} : ev c 65 62 [l0, some (aR o), l2, l3, l4, l5] L2 St S = ev c 65 63 [l0, some (aR o), l2, l3, l4, l5] L2 (aR o :: St) S := ev_go i65_62 rfl
theorem i65_63 : insAt 65 63 = some (.iload 5, 2, (0, 0, 0, 0), 0) := rfl
theorem s65_63 {c : Nat → List AV → SS → Option Out} {l0 l1 l2 l3 l4 : Option AV} {x : Int32} {L2 : List (Nat × AV)} {St : List AV} {S : SS} : ev c 65 63 [l0, l1, l2, l3, l4, some (aI x)] L2 St S = ev c 65 65 [l0, l1, l2, l3, l4, some (aI x)] L2 (aI x :: St) S := ev_go i65_63 rfl
theorem i65_65 : insAt 65 65 = some (.invokevirtual 68, 3, (28, 1, 3, 4), 177) := rfl
theorem s65_65 {c : Nat → List AV → SS → Option Out} {l0 l1 l2 l3 l4 l5 : Option AV} {t0 t1 : AV} {a0 : Int32} {j t : Nat} {L2 : List (Nat × AV)} {S : SS} : ev c 65 65 [l0, l1, l2, l3, l4, l5] L2 [aI a0, aR (4, j, t), t0, t1] S = ck (c 28 [aR (4, j, t), aI a0] S) (fun v S' => ev c 65 68 [l0, l1, l2, l3, l4, l5] L2 (v.toList ++ [t0, t1]) S') := ev_call i65_65 rfl
theorem i65_68 : insAt 65 68 = some (.iload 5, 2, (0, 0, 0, 0), 0) := rfl
theorem s65_68 {c : Nat → List AV → SS → Option Out} {l0 l1 l2 l3 l4 : Option AV} {x : Int32} {L2 : List (Nat × AV)} {St : List AV} {S : SS} : ev c 65 68 [l0, l1, l2, l3, l4, some (aI x)] L2 St S = ev c 65 70 [l0, l1, l2, l3, l4, some (aI x)] L2 (aI x :: St) S := ev_go i65_68 rfl
theorem i65_70 : insAt 65 70 = some (.aload_n 1, 1, (0, 0, 0, 0), 0) := rfl
theorem s65_70 {c : Nat → List AV → SS → Option Out} {l0 l2 l3 l4 l5 : Option AV} {o : OId} {L2 : List (Nat × AV)} {St : List AV} {S : SS} : ev c 65 70 [l0, some (aR o), l2, l3, l4, l5] L2 St S = ev c 65 71 [l0, some (aR o), l2, l3, l4, l5] L2 (aR o :: St) S := ev_go i65_70 rfl
theorem i65_71 : insAt 65 71 = some (.getfield 72, 3, (4, 2, 1, 0), 178) := rfl
theorem s65_71 {c : Nat → List AV → SS → Option Out} {l0 l1 l2 l3 l4 l5 : Option AV} {j t : Nat} {L2 : List (Nat × AV)} {St : List AV} {S : SS} : ev c 65 71 [l0, l1, l2, l3, l4, l5] L2 (aR (4, j, t) :: St) S = ev c 65 74 [l0, l1, l2, l3, l4, l5] L2 (aI (S.1 (4, j, t) 2) :: St) S := ev_go i65_71 rfl
theorem i65_74 : insAt 65 74 = some (.aload_n 1, 1, (0, 0, 0, 0), 0) := rfl
theorem s65_74 {c : Nat → List AV → SS → Option Out} {l0 l2 l3 l4 l5 : Option AV} {o : OId} {L2 : List (Nat × AV)} {St : List AV} {S : SS} : ev c 65 74 [l0, some (aR o), l2, l3, l4, l5] L2 St S = ev c 65 75 [l0, some (aR o), l2, l3, l4, l5] L2 (aR o :: St) S := ev_go i65_74 rfl
theorem i65_75 : insAt 65 75 = some (.getfield 72, 3, (4, 2, 1, 0), 178) := rfl
theorem s65_75 {c : Nat → List AV → SS → Option Out} {l0 l1 l2 l3 l4 l5 : Option AV} {j t : Nat} {L2 : List (Nat × AV)} {St : List AV} {S : SS} : ev c 65 75 [l0, l1, l2, l3, l4, l5] L2 (aR (4, j, t) :: St) S = ev c 65 78 [l0, l1, l2, l3, l4, l5] L2 (aI (S.1 (4, j, t) 2) :: St) S := ev_go i65_75 rfl
theorem i65_78 : insAt 65 78 = some (.imul, 1, (0, 0, 0, 0), 0) := rfl
theorem s65_78 {c : Nat → List AV → SS → Option Out} {l0 l1 l2 l3 l4 l5 : Option AV} {x y : Int32} {L2 : List (Nat × AV)} {St : List AV} {S : SS} : ev c 65 78 [l0, l1, l2, l3, l4, l5] L2 (aI y :: aI x :: St) S = ev c 65 79 [l0, l1, l2, l3, l4, l5] L2 (aI (x * y) :: St) S := ev_go i65_78 rfl
theorem i65_79 : insAt 65 79 = some (.if_icmp .ge 7, 3, (0, 0, 0, 0), 0) := rfl
theorem s65_79 {c : Nat → List AV → SS → Option Out} {l0 l1 l2 l3 l4 l5 : Option AV} {x y : Int32} {L2 : List (Nat × AV)} {St : List AV} {S : SS} : ev c 65 79 [l0, l1, l2, l3, l4, l5] L2 (aI y :: aI x :: St) S = if y ≤ x then ev c 65 86 [l0, l1, l2, l3, l4, l5] L2 St S else ev c 65 82 [l0, l1, l2, l3, l4, l5] L2 St S := ev_br i65_79 rfl
theorem i65_82 : insAt 65 82 = some (.iconst 1, 1, (0, 0, 0, 0), 0) := rfl
theorem s65_82 {c : Nat → List AV → SS → Option Out} {l0 l1 l2 l3 l4 l5 : Option AV} {L2 : List (Nat × AV)} {St : List AV} {S : SS} : ev c 65 82 [l0, l1, l2, l3, l4, l5] L2 St S = ev c 65 83 [l0, l1, l2, l3, l4, l5] L2 (aI 1 :: St) S := ev_go i65_82 rfl
theorem i65_83 : insAt 65 83 = some (.goto 4, 3, (0, 0, 0, 0), 0) := rfl
theorem s65_83 {c : Nat → List AV → SS → Option Out} {l0 l1 l2 l3 l4 l5 : Option AV} {L2 : List (Nat × AV)} {St : List AV} {S : SS} : ev c 65 83 [l0, l1, l2, l3, l4, l5] L2 St S = ev c 65 87 [l0, l1, l2, l3, l4, l5] L2 St S := ev_go i65_83 rfl
theorem i65_86 : insAt 65 86 = some (.iconst 0, 1, (0, 0, 0, 0), 0) := rfl
theorem s65_86 {c : Nat → List AV → SS → Option Out} {l0 l1 l2 l3 l4 l5 : Option AV} {L2 : List (Nat × AV)} {St : List AV} {S : SS} : ev c 65 86 [l0, l1, l2, l3, l4, l5] L2 St S = ev c 65 87 [l0, l1, l2, l3, l4, l5] L2 (aI 0 :: St) S := ev_go i65_86 rfl
theorem i65_87 : insAt 65 87 = some (.invokevirtual 75, 3, (66, 3, 2, 8), 179) := rfl
theorem s65_87 {c : Nat → List AV → SS → Option Out} {l0 l1 l2 l3 l4 l5 : Option AV} {a0 : Int32} {a1 : Int32} {a2 : Int32} {j t : Nat} {L2 : List (Nat × AV)} {S : SS} : ev c 65 87 [l0, l1, l2, l3, l4, l5] L2 [aI a2, aI a1, aI a0, aR (8, j, t)] S = ck (c 66 [aR (8, j, t), aI a0, aI a1, aI a2] S) (fun v S' => ev c 65 90 [l0, l1, l2, l3, l4, l5] L2 (v.toList ++ []) S') := ev_call i65_87 rfl
theorem i65_90 : insAt 65 90 = some (.iinc 4 1, 3, (0, 0, 0, 0), 0) := rfl
theorem s65_90 {c : Nat → List AV → SS → Option Out} {l0 l1 l2 l3 l5 : Option AV} {x : Int32} {L2 : List (Nat × AV)} {St : List AV} {S : SS} : ev c 65 90 [l0, l1, l2, l3, some (aI x), l5] L2 St S = ev c 65 93 [l0, l1, l2, l3, some (aI (x + 1)), l5] (kil L2 4) St S := ev_go i65_90 rfl
theorem i65_93 : insAt 65 93 = some (.goto (-69), 3, (0, 0, 0, 0), 0) := rfl
theorem s65_93 {c : Nat → List AV → SS → Option Out} {l0 l1 l2 l3 l4 l5 : Option AV} {L2 : List (Nat × AV)} {St : List AV} {S : SS} : ev c 65 93 [l0, l1, l2, l3, l4, l5] L2 St S = ev c 65 24 [l0, l1, l2, l3, l4, l5] L2 St S := ev_go i65_93 rfl
theorem i65_96 : insAt 65 96 = some (.return_, 1, (0, 0, 0, 0), 0) := rfl
theorem s65_96 {c : Nat → List AV → SS → Option Out} {l0 l1 l2 l3 l4 l5 : Option AV} {L2 : List (Nat × AV)} {S : SS} : ev c 65 96 [l0, l1, l2, l3, l4, l5] L2 [] S = some (.inl none, S) := ev_end i65_96 rfl
theorem m65 {d : Nat} {o : OId} {a0 : OId} {a1 : Int32} {a2 : Int32} {S : SS} : evm (d + 1) 65 [aR o, aR a0, aI a1, aI a2] S = ev (evm d) 65 0 [some (aR o), some (aR a0), some (aI a1), some (aI a2), none, none] [] [] S := evm_s (n := 6) rfl (Nat.le_of_ble_eq_true rfl) rfl rfl
/-! FrequencyOffice$Search.setServed(IIZ)V -/
theorem i66_0 : insAt 66 0 = some (.aload_n 0, 1, (0, 0, 0, 0), 0) := rfl
theorem s66_0 {c : Nat → List AV → SS → Option Out} {l1 l2 l3 : Option AV} {o : OId} {L2 : List (Nat × AV)} {St : List AV} {S : SS} : ev c 66 0 [some (aR o), l1, l2, l3] L2 St S = ev c 66 1 [some (aR o), l1, l2, l3] L2 (aR o :: St) S := ev_go i66_0 rfl
theorem i66_1 : insAt 66 1 = some (.getfield 18, 3, (8, 2, 0, 0), 60) := rfl
theorem s66_1 {c : Nat → List AV → SS → Option Out} {l0 l1 l2 l3 : Option AV} {j t : Nat} {L2 : List (Nat × AV)} {St : List AV} {S : SS} : ev c 66 1 [l0, l1, l2, l3] L2 (aR (8, j, t) :: St) S = ev c 66 4 [l0, l1, l2, l3] L2 (S.2.2.1 (8, j, t) 2 :: St) S := ev_go i66_1 rfl
theorem i66_4 : insAt 66 4 = some (.iload_n 1, 1, (0, 0, 0, 0), 0) := rfl
theorem s66_4 {c : Nat → List AV → SS → Option Out} {l0 l2 l3 : Option AV} {x : Int32} {L2 : List (Nat × AV)} {St : List AV} {S : SS} : ev c 66 4 [l0, some (aI x), l2, l3] L2 St S = ev c 66 5 [l0, some (aI x), l2, l3] L2 (aI x :: St) S := ev_go i66_4 rfl
theorem i66_5 : insAt 66 5 = some (.iload_n 2, 1, (0, 0, 0, 0), 0) := rfl
theorem s66_5 {c : Nat → List AV → SS → Option Out} {l0 l1 l3 : Option AV} {x : Int32} {L2 : List (Nat × AV)} {St : List AV} {S : SS} : ev c 66 5 [l0, l1, some (aI x), l3] L2 St S = ev c 66 6 [l0, l1, some (aI x), l3] L2 (aI x :: St) S := ev_go i66_5 rfl
theorem i66_6 : insAt 66 6 = some (.invokestatic 85, 3, (35, 3, 1, 0), 180) := rfl
theorem s66_6 {c : Nat → List AV → SS → Option Out} {l0 l1 l2 l3 : Option AV} {a0 : OId} {a1 : Int32} {a2 : Int32} {L2 : List (Nat × AV)} {S : SS} : ev c 66 6 [l0, l1, l2, l3] L2 [aI a2, aI a1, aR a0] S = ck (c 35 [aR a0, aI a1, aI a2] S) (fun v S' => ev c 66 9 [l0, l1, l2, l3] L2 (v.toList ++ []) S') := ev_call i66_6 rfl
theorem i66_9 : insAt 66 9 = some (.iload_n 1, 1, (0, 0, 0, 0), 0) := rfl
theorem s66_9 {c : Nat → List AV → SS → Option Out} {l0 l2 l3 : Option AV} {x : Int32} {L2 : List (Nat × AV)} {St : List AV} {S : SS} : ev c 66 9 [l0, some (aI x), l2, l3] L2 St S = ev c 66 10 [l0, some (aI x), l2, l3] L2 (aI x :: St) S := ev_go i66_9 rfl
theorem i66_10 : insAt 66 10 = some (.ifCond .lt 19, 3, (0, 0, 0, 0), 0) := rfl
theorem s66_10 {c : Nat → List AV → SS → Option Out} {l0 l1 l2 l3 : Option AV} {x : Int32} {L2 : List (Nat × AV)} {St : List AV} {S : SS} : ev c 66 10 [l0, l1, l2, l3] L2 (aI x :: St) S = if x < 0 then ev c 66 29 [l0, l1, l2, l3] L2 St S else ev c 66 13 [l0, l1, l2, l3] L2 St S := ev_br i66_10 rfl
theorem i66_13 : insAt 66 13 = some (.iload_n 1, 1, (0, 0, 0, 0), 0) := rfl
theorem s66_13 {c : Nat → List AV → SS → Option Out} {l0 l2 l3 : Option AV} {x : Int32} {L2 : List (Nat × AV)} {St : List AV} {S : SS} : ev c 66 13 [l0, some (aI x), l2, l3] L2 St S = ev c 66 14 [l0, some (aI x), l2, l3] L2 (aI x :: St) S := ev_go i66_13 rfl
theorem i66_14 : insAt 66 14 = some (.aload_n 0, 1, (0, 0, 0, 0), 0) := rfl
theorem s66_14 {c : Nat → List AV → SS → Option Out} {l1 l2 l3 : Option AV} {o : OId} {L2 : List (Nat × AV)} {St : List AV} {S : SS} : ev c 66 14 [some (aR o), l1, l2, l3] L2 St S = ev c 66 15 [some (aR o), l1, l2, l3] L2 (aR o :: St) S := ev_go i66_14 rfl
theorem i66_15 : insAt 66 15 = some (.getfield 22, 3, (8, 3, 0, 0), 61) := rfl
theorem s66_15 {c : Nat → List AV → SS → Option Out} {l0 l1 l2 l3 : Option AV} {j t : Nat} {L2 : List (Nat × AV)} {St : List AV} {S : SS} : ev c 66 15 [l0, l1, l2, l3] L2 (aR (8, j, t) :: St) S = ev c 66 18 [l0, l1, l2, l3] L2 (S.2.2.1 (8, j, t) 3 :: St) S := ev_go i66_15 rfl
theorem i66_18 : insAt 66 18 = some (.arraylength, 1, (0, 0, 0, 0), 0) := rfl
theorem s66_18 {c : Nat → List AV → SS → Option Out} {l0 l1 l2 l3 : Option AV} {o : OId} {L2 : List (Nat × AV)} {St : List AV} {S : SS} : ev c 66 18 [l0, l1, l2, l3] L2 (aR o :: St) S = kN o (fun x => ev c 66 19 [l0, l1, l2, l3] L2 (aI x :: St) S) := ev_alen i66_18
theorem i66_19 : insAt 66 19 = some (.if_icmp .ge 10, 3, (0, 0, 0, 0), 0) := rfl
theorem s66_19 {c : Nat → List AV → SS → Option Out} {l0 l1 l2 l3 : Option AV} {x y : Int32} {L2 : List (Nat × AV)} {St : List AV} {S : SS} : ev c 66 19 [l0, l1, l2, l3] L2 (aI y :: aI x :: St) S = if y ≤ x then ev c 66 29 [l0, l1, l2, l3] L2 St S else ev c 66 22 [l0, l1, l2, l3] L2 St S := ev_br i66_19 rfl
theorem i66_22 : insAt 66 22 = some (.aload_n 0, 1, (0, 0, 0, 0), 0) := rfl
theorem s66_22 {c : Nat → List AV → SS → Option Out} {l1 l2 l3 : Option AV} {o : OId} {L2 : List (Nat × AV)} {St : List AV} {S : SS} : ev c 66 22 [some (aR o), l1, l2, l3] L2 St S = ev c 66 23 [some (aR o), l1, l2, l3] L2 (aR o :: St) S := ev_go i66_22 rfl
theorem i66_23 : insAt 66 23 = some (.getfield 22, 3, (8, 3, 0, 0), 61) := rfl
theorem s66_23 {c : Nat → List AV → SS → Option Out} {l0 l1 l2 l3 : Option AV} {j t : Nat} {L2 : List (Nat × AV)} {St : List AV} {S : SS} : ev c 66 23 [l0, l1, l2, l3] L2 (aR (8, j, t) :: St) S = ev c 66 26 [l0, l1, l2, l3] L2 (S.2.2.1 (8, j, t) 3 :: St) S := ev_go i66_23 rfl
theorem i66_26 : insAt 66 26 = some (.iload_n 1, 1, (0, 0, 0, 0), 0) := rfl
theorem s66_26 {c : Nat → List AV → SS → Option Out} {l0 l2 l3 : Option AV} {x : Int32} {L2 : List (Nat × AV)} {St : List AV} {S : SS} : ev c 66 26 [l0, some (aI x), l2, l3] L2 St S = ev c 66 27 [l0, some (aI x), l2, l3] L2 (aI x :: St) S := ev_go i66_26 rfl
theorem i66_27 : insAt 66 27 = some (.iload_n 3, 1, (0, 0, 0, 0), 0) := rfl
theorem s66_27 {c : Nat → List AV → SS → Option Out} {l0 l1 l2 : Option AV} {x : Int32} {L2 : List (Nat × AV)} {St : List AV} {S : SS} : ev c 66 27 [l0, l1, l2, some (aI x)] L2 St S = ev c 66 28 [l0, l1, l2, some (aI x)] L2 (aI x :: St) S := ev_go i66_27 rfl
theorem i66_28 : insAt 66 28 = some (.bastore, 1, (0, 0, 0, 0), 0) := rfl
theorem s66_28 {c : Nat → List AV → SS → Option Out} {l0 l1 l2 l3 : Option AV} {x i : Int32} {o : OId} {L2 : List (Nat × AV)} {St : List AV} {S : SS} : ev c 66 28 [l0, l1, l2, l3] L2 (aI x :: aI i :: aR o :: St) S = kBw o i x (ev c 66 29 [l0, l1, l2, l3] L2 St (setI S.1 o i.toNatClampNeg x, S.2)) := ev_bastore i66_28
theorem i66_29 : insAt 66 29 = some (.return_, 1, (0, 0, 0, 0), 0) := rfl
theorem s66_29 {c : Nat → List AV → SS → Option Out} {l0 l1 l2 l3 : Option AV} {L2 : List (Nat × AV)} {S : SS} : ev c 66 29 [l0, l1, l2, l3] L2 [] S = some (.inl none, S) := ev_end i66_29 rfl
theorem m66 {d : Nat} {o : OId} {a0 : Int32} {a1 : Int32} {a2 : Int32} {S : SS} : evm (d + 1) 66 [aR o, aI a0, aI a1, aI a2] S = ev (evm d) 66 0 [some (aR o), some (aI a0), some (aI a1), some (aI a2)] [] [] S := evm_s (n := 4) rfl (Nat.le_of_ble_eq_true rfl) rfl rfl
/-! FrequencyOffice$Search.findByOrder()Z -/
theorem i68_0 : insAt 68 0 = some (.iconst 0, 1, (0, 0, 0, 0), 0) := rfl
theorem s68_0 {c : Nat → List AV → SS → Option Out} {l0 l1 : Option AV} {L2 : List (Nat × AV)} {St : List AV} {S : SS} : ev c 68 0 [l0, l1] L2 St S = ev c 68 1 [l0, l1] L2 (aI 0 :: St) S := ev_go i68_0 rfl
theorem i68_1 : insAt 68 1 = some (.istore_n 1, 1, (0, 0, 0, 0), 0) := rfl
theorem s68_1 {c : Nat → List AV → SS → Option Out} {l0 l1 : Option AV} {x : Int32} {L2 : List (Nat × AV)} {St : List AV} {S : SS} : ev c 68 1 [l0, l1] L2 (aI x :: St) S = ev c 68 2 [l0, some (aI x)] (kil L2 1) St S := ev_go i68_1 rfl
theorem i68_2 : insAt 68 2 = some (.iload_n 1, 1, (0, 0, 0, 0), 0) := rfl
theorem s68_2 {c : Nat → List AV → SS → Option Out} {l0 : Option AV} {x : Int32} {L2 : List (Nat × AV)} {St : List AV} {S : SS} : ev c 68 2 [l0, some (aI x)] L2 St S = ev c 68 3 [l0, some (aI x)] L2 (aI x :: St) S := ev_go i68_2 rfl
theorem i68_3 : insAt 68 3 = some (.iconst 2, 1, (0, 0, 0, 0), 0) := rfl
theorem s68_3 {c : Nat → List AV → SS → Option Out} {l0 l1 : Option AV} {L2 : List (Nat × AV)} {St : List AV} {S : SS} : ev c 68 3 [l0, l1] L2 St S = ev c 68 4 [l0, l1] L2 (aI 2 :: St) S := ev_go i68_3 rfl
theorem i68_4 : insAt 68 4 = some (.if_icmp .gt 27, 3, (0, 0, 0, 0), 0) := rfl
theorem s68_4 {c : Nat → List AV → SS → Option Out} {l0 l1 : Option AV} {x y : Int32} {L2 : List (Nat × AV)} {St : List AV} {S : SS} : ev c 68 4 [l0, l1] L2 (aI y :: aI x :: St) S = if y < x then ev c 68 31 [l0, l1] L2 St S else ev c 68 7 [l0, l1] L2 St S := ev_br i68_4 rfl
theorem i68_7 : insAt 68 7 = some (.aload_n 0, 1, (0, 0, 0, 0), 0) := rfl
theorem s68_7 {c : Nat → List AV → SS → Option Out} {l1 : Option AV} {o : OId} {L2 : List (Nat × AV)} {St : List AV} {S : SS} : ev c 68 7 [some (aR o), l1] L2 St S = ev c 68 8 [some (aR o), l1] L2 (aR o :: St) S := ev_go i68_7 rfl
theorem i68_8 : insAt 68 8 = some (.getfield 12, 3, (8, 1, 0, 0), 59) := rfl
theorem s68_8 {c : Nat → List AV → SS → Option Out} {l0 l1 : Option AV} {j t : Nat} {L2 : List (Nat × AV)} {St : List AV} {S : SS} : ev c 68 8 [l0, l1] L2 (aR (8, j, t) :: St) S = ev c 68 11 [l0, l1] L2 (S.2.2.1 (8, j, t) 1 :: St) S := ev_go i68_8 rfl
theorem i68_11 : insAt 68 11 = some (.iload_n 1, 1, (0, 0, 0, 0), 0) := rfl
theorem s68_11 {c : Nat → List AV → SS → Option Out} {l0 : Option AV} {x : Int32} {L2 : List (Nat × AV)} {St : List AV} {S : SS} : ev c 68 11 [l0, some (aI x)] L2 St S = ev c 68 12 [l0, some (aI x)] L2 (aI x :: St) S := ev_go i68_11 rfl
theorem i68_12 : insAt 68 12 = some (.putfield 111, 3, (7, 0, 1, 0), 183) := rfl
theorem s68_12 {c : Nat → List AV → SS → Option Out} {l0 l1 : Option AV} {j t : Nat} {x : Int32} {L2 : List (Nat × AV)} {St : List AV} {S : SS} : ev c 68 12 [l0, l1] L2 (aI x :: aR (7, j, t) :: St) S = ev c 68 15 [l0, l1] L2 St (setI S.1 (7, j, t) 0 x, S.2) := ev_go i68_12 rfl
theorem i68_15 : insAt 68 15 = some (.aload_n 0, 1, (0, 0, 0, 0), 0) := rfl
theorem s68_15 {c : Nat → List AV → SS → Option Out} {l1 : Option AV} {o : OId} {L2 : List (Nat × AV)} {St : List AV} {S : SS} : ev c 68 15 [some (aR o), l1] L2 St S = ev c 68 16 [some (aR o), l1] L2 (aR o :: St) S := ev_go i68_15 rfl
theorem i68_16 : insAt 68 16 = some (.iconst 0, 1, (0, 0, 0, 0), 0) := rfl
theorem s68_16 {c : Nat → List AV → SS → Option Out} {l0 l1 : Option AV} {L2 : List (Nat × AV)} {St : List AV} {S : SS} : ev c 68 16 [l0, l1] L2 St S = ev c 68 17 [l0, l1] L2 (aI 0 :: St) S := ev_go i68_16 rfl
theorem i68_17 : insAt 68 17 = some (.invokestatic 114, 3, (69, 2, 0, 0), 184) := rfl
theorem s68_17 {c : Nat → List AV → SS → Option Out} {l0 l1 : Option AV} {a0 : OId} {a1 : Int32} {L2 : List (Nat × AV)} {S : SS} : ev c 68 17 [l0, l1] L2 [aI a1, aR a0] S = ck (c 69 [aR a0, aI a1] S) (fun v S' => ev c 68 20 [l0, l1] L2 (v.toList ++ []) S') := ev_call i68_17 rfl
theorem i68_20 : insAt 68 20 = some (.ifCond .eq 5, 3, (0, 0, 0, 0), 0) := rfl
theorem s68_20 {c : Nat → List AV → SS → Option Out} {l0 l1 : Option AV} {x : Int32} {L2 : List (Nat × AV)} {St : List AV} {S : SS} : ev c 68 20 [l0, l1] L2 (aI x :: St) S = if x = 0 then ev c 68 25 [l0, l1] L2 St S else ev c 68 23 [l0, l1] L2 St S := ev_br i68_20 rfl
theorem i68_23 : insAt 68 23 = some (.iconst 1, 1, (0, 0, 0, 0), 0) := rfl
theorem s68_23 {c : Nat → List AV → SS → Option Out} {l0 l1 : Option AV} {L2 : List (Nat × AV)} {St : List AV} {S : SS} : ev c 68 23 [l0, l1] L2 St S = ev c 68 24 [l0, l1] L2 (aI 1 :: St) S := ev_go i68_23 rfl
theorem i68_24 : insAt 68 24 = some (.ireturn, 1, (0, 0, 0, 0), 0) := rfl
theorem s68_24 {c : Nat → List AV → SS → Option Out} {l0 l1 : Option AV} {x : Int32} {L2 : List (Nat × AV)} {S : SS} : ev c 68 24 [l0, l1] L2 [aI x] S = if x = 0 ∨ x = 1 then some (.inl (some (aI x)), S) else none := ev_rt i68_24 rfl
theorem i68_25 : insAt 68 25 = some (.iinc 1 1, 3, (0, 0, 0, 0), 0) := rfl
theorem s68_25 {c : Nat → List AV → SS → Option Out} {l0 : Option AV} {x : Int32} {L2 : List (Nat × AV)} {St : List AV} {S : SS} : ev c 68 25 [l0, some (aI x)] L2 St S = ev c 68 28 [l0, some (aI (x + 1))] (kil L2 1) St S := ev_go i68_25 rfl
theorem i68_28 : insAt 68 28 = some (.goto (-26), 3, (0, 0, 0, 0), 0) := rfl
theorem s68_28 {c : Nat → List AV → SS → Option Out} {l0 l1 : Option AV} {L2 : List (Nat × AV)} {St : List AV} {S : SS} : ev c 68 28 [l0, l1] L2 St S = ev c 68 2 [l0, l1] L2 St S := ev_go i68_28 rfl
theorem i68_31 : insAt 68 31 = some (.iconst 0, 1, (0, 0, 0, 0), 0) := rfl
theorem s68_31 {c : Nat → List AV → SS → Option Out} {l0 l1 : Option AV} {L2 : List (Nat × AV)} {St : List AV} {S : SS} : ev c 68 31 [l0, l1] L2 St S = ev c 68 32 [l0, l1] L2 (aI 0 :: St) S := ev_go i68_31 rfl
theorem i68_32 : insAt 68 32 = some (.ireturn, 1, (0, 0, 0, 0), 0) := rfl
theorem s68_32 {c : Nat → List AV → SS → Option Out} {l0 l1 : Option AV} {x : Int32} {L2 : List (Nat × AV)} {S : SS} : ev c 68 32 [l0, l1] L2 [aI x] S = if x = 0 ∨ x = 1 then some (.inl (some (aI x)), S) else none := ev_rt i68_32 rfl
theorem m68 {d : Nat} {o : OId} {S : SS} : evm (d + 1) 68 [aR o] S = ev (evm d) 68 0 [some (aR o), none] [] [] S := evm_s (n := 2) rfl (Nat.le_of_ble_eq_true rfl) rfl rfl
/-! FrequencyOffice$Search.tryMoves(LFrequencyOffice$Search;I)Z -/
theorem i69_0 : insAt 69 0 = some (.iload_n 1, 1, (0, 0, 0, 0), 0) := rfl
theorem s69_0 {c : Nat → List AV → SS → Option Out} {l0 l2 : Option AV} {x : Int32} {L2 : List (Nat × AV)} {St : List AV} {S : SS} : ev c 69 0 [l0, some (aI x), l2] L2 St S = ev c 69 1 [l0, some (aI x), l2] L2 (aI x :: St) S := ev_go i69_0 rfl
theorem i69_1 : insAt 69 1 = some (.aload_n 0, 1, (0, 0, 0, 0), 0) := rfl
theorem s69_1 {c : Nat → List AV → SS → Option Out} {l1 l2 : Option AV} {o : OId} {L2 : List (Nat × AV)} {St : List AV} {S : SS} : ev c 69 1 [some (aR o), l1, l2] L2 St S = ev c 69 2 [some (aR o), l1, l2] L2 (aR o :: St) S := ev_go i69_1 rfl
theorem i69_2 : insAt 69 2 = some (.getfield 12, 3, (8, 1, 0, 0), 59) := rfl
theorem s69_2 {c : Nat → List AV → SS → Option Out} {l0 l1 l2 : Option AV} {j t : Nat} {L2 : List (Nat × AV)} {St : List AV} {S : SS} : ev c 69 2 [l0, l1, l2] L2 (aR (8, j, t) :: St) S = ev c 69 5 [l0, l1, l2] L2 (S.2.2.1 (8, j, t) 1 :: St) S := ev_go i69_2 rfl
theorem i69_5 : insAt 69 5 = some (.getfield 111, 3, (7, 0, 1, 0), 183) := rfl
theorem s69_5 {c : Nat → List AV → SS → Option Out} {l0 l1 l2 : Option AV} {j t : Nat} {L2 : List (Nat × AV)} {St : List AV} {S : SS} : ev c 69 5 [l0, l1, l2] L2 (aR (7, j, t) :: St) S = ev c 69 8 [l0, l1, l2] L2 (aI (S.1 (7, j, t) 0) :: St) S := ev_go i69_5 rfl
theorem i69_8 : insAt 69 8 = some (.if_icmp .lt 8, 3, (0, 0, 0, 0), 0) := rfl
theorem s69_8 {c : Nat → List AV → SS → Option Out} {l0 l1 l2 : Option AV} {x y : Int32} {L2 : List (Nat × AV)} {St : List AV} {S : SS} : ev c 69 8 [l0, l1, l2] L2 (aI y :: aI x :: St) S = if x < y then ev c 69 16 [l0, l1, l2] L2 St S else ev c 69 11 [l0, l1, l2] L2 St S := ev_br i69_8 rfl
theorem i69_11 : insAt 69 11 = some (.aload_n 0, 1, (0, 0, 0, 0), 0) := rfl
theorem s69_11 {c : Nat → List AV → SS → Option Out} {l1 l2 : Option AV} {o : OId} {L2 : List (Nat × AV)} {St : List AV} {S : SS} : ev c 69 11 [some (aR o), l1, l2] L2 St S = ev c 69 12 [some (aR o), l1, l2] L2 (aR o :: St) S := ev_go i69_11 rfl
theorem i69_12 : insAt 69 12 = some (.invokevirtual 118, 3, (70, 0, 2, 8), 185) := rfl
theorem s69_12 {c : Nat → List AV → SS → Option Out} {l0 l1 l2 : Option AV} {j t : Nat} {L2 : List (Nat × AV)} {S : SS} : ev c 69 12 [l0, l1, l2] L2 [aR (8, j, t)] S = ck (c 70 [aR (8, j, t)] S) (fun v S' => ev c 69 15 [l0, l1, l2] L2 (v.toList ++ []) S') := ev_call i69_12 rfl
theorem i69_15 : insAt 69 15 = some (.ireturn, 1, (0, 0, 0, 0), 0) := rfl
theorem s69_15 {c : Nat → List AV → SS → Option Out} {l0 l1 l2 : Option AV} {x : Int32} {L2 : List (Nat × AV)} {S : SS} : ev c 69 15 [l0, l1, l2] L2 [aI x] S = if x = 0 ∨ x = 1 then some (.inl (some (aI x)), S) else none := ev_rt i69_15 rfl
theorem i69_16 : insAt 69 16 = some (.iconst 0, 1, (0, 0, 0, 0), 0) := rfl
theorem s69_16 {c : Nat → List AV → SS → Option Out} {l0 l1 l2 : Option AV} {L2 : List (Nat × AV)} {St : List AV} {S : SS} : ev c 69 16 [l0, l1, l2] L2 St S = ev c 69 17 [l0, l1, l2] L2 (aI 0 :: St) S := ev_go i69_16 rfl
theorem i69_17 : insAt 69 17 = some (.istore_n 2, 1, (0, 0, 0, 0), 0) := rfl
theorem s69_17 {c : Nat → List AV → SS → Option Out} {l0 l1 l2 : Option AV} {x : Int32} {L2 : List (Nat × AV)} {St : List AV} {S : SS} : ev c 69 17 [l0, l1, l2] L2 (aI x :: St) S = ev c 69 18 [l0, l1, some (aI x)] (kil L2 2) St S := ev_go i69_17 rfl
theorem i69_18 : insAt 69 18 = some (.iload_n 2, 1, (0, 0, 0, 0), 0) := rfl
theorem s69_18 {c : Nat → List AV → SS → Option Out} {l0 l1 : Option AV} {x : Int32} {L2 : List (Nat × AV)} {St : List AV} {S : SS} : ev c 69 18 [l0, l1, some (aI x)] L2 St S = ev c 69 19 [l0, l1, some (aI x)] L2 (aI x :: St) S := ev_go i69_18 rfl
theorem i69_19 : insAt 69 19 = some (.aload_n 0, 1, (0, 0, 0, 0), 0) := rfl
theorem s69_19 {c : Nat → List AV → SS → Option Out} {l1 l2 : Option AV} {o : OId} {L2 : List (Nat × AV)} {St : List AV} {S : SS} : ev c 69 19 [some (aR o), l1, l2] L2 St S = ev c 69 20 [some (aR o), l1, l2] L2 (aR o :: St) S := ev_go i69_19 rfl
theorem i69_20 : insAt 69 20 = some (.getfield 36, 3, (8, 0, 0, 0), 65) := rfl
theorem s69_20 {c : Nat → List AV → SS → Option Out} {l0 l1 l2 : Option AV} {j t : Nat} {L2 : List (Nat × AV)} {St : List AV} {S : SS} : ev c 69 20 [l0, l1, l2] L2 (aR (8, j, t) :: St) S = ev c 69 23 [l0, l1, l2] L2 (S.2.2.1 (8, j, t) 0 :: St) S := ev_go i69_20 rfl
theorem i69_23 : insAt 69 23 = some (.getfield 46, 3, (6, 0, 1, 0), 172) := rfl
theorem s69_23 {c : Nat → List AV → SS → Option Out} {l0 l1 l2 : Option AV} {j t : Nat} {L2 : List (Nat × AV)} {St : List AV} {S : SS} : ev c 69 23 [l0, l1, l2] L2 (aR (6, j, t) :: St) S = ev c 69 26 [l0, l1, l2] L2 (aI (S.1 (6, j, t) 0) :: St) S := ev_go i69_23 rfl
theorem i69_26 : insAt 69 26 = some (.if_icmp .ge 28, 3, (0, 0, 0, 0), 0) := rfl
theorem s69_26 {c : Nat → List AV → SS → Option Out} {l0 l1 l2 : Option AV} {x y : Int32} {L2 : List (Nat × AV)} {St : List AV} {S : SS} : ev c 69 26 [l0, l1, l2] L2 (aI y :: aI x :: St) S = if y ≤ x then ev c 69 54 [l0, l1, l2] L2 St S else ev c 69 29 [l0, l1, l2] L2 St S := ev_br i69_26 rfl
theorem i69_29 : insAt 69 29 = some (.iload_n 2, 1, (0, 0, 0, 0), 0) := rfl
theorem s69_29 {c : Nat → List AV → SS → Option Out} {l0 l1 : Option AV} {x : Int32} {L2 : List (Nat × AV)} {St : List AV} {S : SS} : ev c 69 29 [l0, l1, some (aI x)] L2 St S = ev c 69 30 [l0, l1, some (aI x)] L2 (aI x :: St) S := ev_go i69_29 rfl
theorem i69_30 : insAt 69 30 = some (.aload_n 0, 1, (0, 0, 0, 0), 0) := rfl
theorem s69_30 {c : Nat → List AV → SS → Option Out} {l1 l2 : Option AV} {o : OId} {L2 : List (Nat × AV)} {St : List AV} {S : SS} : ev c 69 30 [some (aR o), l1, l2] L2 St S = ev c 69 31 [some (aR o), l1, l2] L2 (aR o :: St) S := ev_go i69_30 rfl
theorem i69_31 : insAt 69 31 = some (.getfield 33, 3, (8, 6, 0, 0), 64) := rfl
theorem s69_31 {c : Nat → List AV → SS → Option Out} {l0 l1 l2 : Option AV} {j t : Nat} {L2 : List (Nat × AV)} {St : List AV} {S : SS} : ev c 69 31 [l0, l1, l2] L2 (aR (8, j, t) :: St) S = ev c 69 34 [l0, l1, l2] L2 (aI (S.1 (8, j, t) 6) :: St) S := ev_go i69_31 rfl
theorem i69_34 : insAt 69 34 = some (.if_icmp .eq 14, 3, (0, 0, 0, 0), 0) := rfl
theorem s69_34 {c : Nat → List AV → SS → Option Out} {l0 l1 l2 : Option AV} {x y : Int32} {L2 : List (Nat × AV)} {St : List AV} {S : SS} : ev c 69 34 [l0, l1, l2] L2 (aI y :: aI x :: St) S = if x = y then ev c 69 48 [l0, l1, l2] L2 St S else ev c 69 37 [l0, l1, l2] L2 St S := ev_br i69_34 rfl
theorem i69_37 : insAt 69 37 = some (.aload_n 0, 1, (0, 0, 0, 0), 0) := rfl
theorem s69_37 {c : Nat → List AV → SS → Option Out} {l1 l2 : Option AV} {o : OId} {L2 : List (Nat × AV)} {St : List AV} {S : SS} : ev c 69 37 [some (aR o), l1, l2] L2 St S = ev c 69 38 [some (aR o), l1, l2] L2 (aR o :: St) S := ev_go i69_37 rfl
theorem i69_38 : insAt 69 38 = some (.iload_n 2, 1, (0, 0, 0, 0), 0) := rfl
theorem s69_38 {c : Nat → List AV → SS → Option Out} {l0 l1 : Option AV} {x : Int32} {L2 : List (Nat × AV)} {St : List AV} {S : SS} : ev c 69 38 [l0, l1, some (aI x)] L2 St S = ev c 69 39 [l0, l1, some (aI x)] L2 (aI x :: St) S := ev_go i69_38 rfl
theorem i69_39 : insAt 69 39 = some (.iload_n 1, 1, (0, 0, 0, 0), 0) := rfl
theorem s69_39 {c : Nat → List AV → SS → Option Out} {l0 l2 : Option AV} {x : Int32} {L2 : List (Nat × AV)} {St : List AV} {S : SS} : ev c 69 39 [l0, some (aI x), l2] L2 St S = ev c 69 40 [l0, some (aI x), l2] L2 (aI x :: St) S := ev_go i69_39 rfl
theorem i69_40 : insAt 69 40 = some (.invokestatic 122, 3, (75, 3, 0, 0), 186) := rfl
theorem s69_40 {c : Nat → List AV → SS → Option Out} {l0 l1 l2 : Option AV} {a0 : OId} {a1 : Int32} {a2 : Int32} {L2 : List (Nat × AV)} {S : SS} : ev c 69 40 [l0, l1, l2] L2 [aI a2, aI a1, aR a0] S = ck (c 75 [aR a0, aI a1, aI a2] S) (fun v S' => ev c 69 43 [l0, l1, l2] L2 (v.toList ++ []) S') := ev_call i69_40 rfl
theorem i69_43 : insAt 69 43 = some (.ifCond .eq 5, 3, (0, 0, 0, 0), 0) := rfl
theorem s69_43 {c : Nat → List AV → SS → Option Out} {l0 l1 l2 : Option AV} {x : Int32} {L2 : List (Nat × AV)} {St : List AV} {S : SS} : ev c 69 43 [l0, l1, l2] L2 (aI x :: St) S = if x = 0 then ev c 69 48 [l0, l1, l2] L2 St S else ev c 69 46 [l0, l1, l2] L2 St S := ev_br i69_43 rfl
theorem i69_46 : insAt 69 46 = some (.iconst 1, 1, (0, 0, 0, 0), 0) := rfl
theorem s69_46 {c : Nat → List AV → SS → Option Out} {l0 l1 l2 : Option AV} {L2 : List (Nat × AV)} {St : List AV} {S : SS} : ev c 69 46 [l0, l1, l2] L2 St S = ev c 69 47 [l0, l1, l2] L2 (aI 1 :: St) S := ev_go i69_46 rfl
theorem i69_47 : insAt 69 47 = some (.ireturn, 1, (0, 0, 0, 0), 0) := rfl
theorem s69_47 {c : Nat → List AV → SS → Option Out} {l0 l1 l2 : Option AV} {x : Int32} {L2 : List (Nat × AV)} {S : SS} : ev c 69 47 [l0, l1, l2] L2 [aI x] S = if x = 0 ∨ x = 1 then some (.inl (some (aI x)), S) else none := ev_rt i69_47 rfl
theorem i69_48 : insAt 69 48 = some (.iinc 2 1, 3, (0, 0, 0, 0), 0) := rfl
theorem s69_48 {c : Nat → List AV → SS → Option Out} {l0 l1 : Option AV} {x : Int32} {L2 : List (Nat × AV)} {St : List AV} {S : SS} : ev c 69 48 [l0, l1, some (aI x)] L2 St S = ev c 69 51 [l0, l1, some (aI (x + 1))] (kil L2 2) St S := ev_go i69_48 rfl
theorem i69_51 : insAt 69 51 = some (.goto (-33), 3, (0, 0, 0, 0), 0) := rfl
theorem s69_51 {c : Nat → List AV → SS → Option Out} {l0 l1 l2 : Option AV} {L2 : List (Nat × AV)} {St : List AV} {S : SS} : ev c 69 51 [l0, l1, l2] L2 St S = ev c 69 18 [l0, l1, l2] L2 St S := ev_go i69_51 rfl
theorem i69_54 : insAt 69 54 = some (.iconst 0, 1, (0, 0, 0, 0), 0) := rfl
theorem s69_54 {c : Nat → List AV → SS → Option Out} {l0 l1 l2 : Option AV} {L2 : List (Nat × AV)} {St : List AV} {S : SS} : ev c 69 54 [l0, l1, l2] L2 St S = ev c 69 55 [l0, l1, l2] L2 (aI 0 :: St) S := ev_go i69_54 rfl
theorem i69_55 : insAt 69 55 = some (.ireturn, 1, (0, 0, 0, 0), 0) := rfl
theorem s69_55 {c : Nat → List AV → SS → Option Out} {l0 l1 l2 : Option AV} {x : Int32} {L2 : List (Nat × AV)} {S : SS} : ev c 69 55 [l0, l1, l2] L2 [aI x] S = if x = 0 ∨ x = 1 then some (.inl (some (aI x)), S) else none := ev_rt i69_55 rfl
theorem m69 {d : Nat} {a0 : OId} {a1 : Int32} {S : SS} : evm (d + 1) 69 [aR a0, aI a1] S = ev (evm d) 69 0 [some (aR a0), some (aI a1), none] [] [] S := evm_s (n := 3) rfl (Nat.le_of_ble_eq_true rfl) rfl rfl
/-! FrequencyOffice$Search.chooseChannel()Z -/
theorem i70_0 : insAt 70 0 = some (.aload_n 0, 1, (0, 0, 0, 0), 0) := rfl
theorem s70_0 {c : Nat → List AV → SS → Option Out} {l1 l2 l3 l4 : Option AV} {o : OId} {L2 : List (Nat × AV)} {St : List AV} {S : SS} : ev c 70 0 [some (aR o), l1, l2, l3, l4] L2 St S = ev c 70 1 [some (aR o), l1, l2, l3, l4] L2 (aR o :: St) S := ev_go i70_0 rfl
theorem i70_1 : insAt 70 1 = some (.invokevirtual 137, 3, (71, 0, 2, 8), 187) := rfl
theorem s70_1 {c : Nat → List AV → SS → Option Out} {l0 l1 l2 l3 l4 : Option AV} {j t : Nat} {L2 : List (Nat × AV)} {S : SS} : ev c 70 1 [l0, l1, l2, l3, l4] L2 [aR (8, j, t)] S = ck (c 71 [aR (8, j, t)] S) (fun v S' => ev c 70 4 [l0, l1, l2, l3, l4] L2 (v.toList ++ []) S') := ev_call i70_1 rfl
theorem i70_4 : insAt 70 4 = some (.istore_n 1, 1, (0, 0, 0, 0), 0) := rfl
theorem s70_4 {c : Nat → List AV → SS → Option Out} {l0 l1 l2 l3 l4 : Option AV} {x : Int32} {L2 : List (Nat × AV)} {St : List AV} {S : SS} : ev c 70 4 [l0, l1, l2, l3, l4] L2 (aI x :: St) S = ev c 70 5 [l0, some (aI x), l2, l3, l4] (kil L2 1) St S := ev_go i70_4 rfl
theorem i70_5 : insAt 70 5 = some (.iconst 0, 1, (0, 0, 0, 0), 0) := rfl
theorem s70_5 {c : Nat → List AV → SS → Option Out} {l0 l1 l2 l3 l4 : Option AV} {L2 : List (Nat × AV)} {St : List AV} {S : SS} : ev c 70 5 [l0, l1, l2, l3, l4] L2 St S = ev c 70 6 [l0, l1, l2, l3, l4] L2 (aI 0 :: St) S := ev_go i70_5 rfl
theorem i70_6 : insAt 70 6 = some (.istore_n 2, 1, (0, 0, 0, 0), 0) := rfl
theorem s70_6 {c : Nat → List AV → SS → Option Out} {l0 l1 l2 l3 l4 : Option AV} {x : Int32} {L2 : List (Nat × AV)} {St : List AV} {S : SS} : ev c 70 6 [l0, l1, l2, l3, l4] L2 (aI x :: St) S = ev c 70 7 [l0, l1, some (aI x), l3, l4] (kil L2 2) St S := ev_go i70_6 rfl
theorem i70_7 : insAt 70 7 = some (.aload_n 0, 1, (0, 0, 0, 0), 0) := rfl
theorem s70_7 {c : Nat → List AV → SS → Option Out} {l1 l2 l3 l4 : Option AV} {o : OId} {L2 : List (Nat × AV)} {St : List AV} {S : SS} : ev c 70 7 [some (aR o), l1, l2, l3, l4] L2 St S = ev c 70 8 [some (aR o), l1, l2, l3, l4] L2 (aR o :: St) S := ev_go i70_7 rfl
theorem i70_8 : insAt 70 8 = some (.getfield 12, 3, (8, 1, 0, 0), 59) := rfl
theorem s70_8 {c : Nat → List AV → SS → Option Out} {l0 l1 l2 l3 l4 : Option AV} {j t : Nat} {L2 : List (Nat × AV)} {St : List AV} {S : SS} : ev c 70 8 [l0, l1, l2, l3, l4] L2 (aR (8, j, t) :: St) S = ev c 70 11 [l0, l1, l2, l3, l4] L2 (S.2.2.1 (8, j, t) 1 :: St) S := ev_go i70_8 rfl
theorem i70_11 : insAt 70 11 = some (.iconst (-1), 1, (0, 0, 0, 0), 0) := rfl
theorem s70_11 {c : Nat → List AV → SS → Option Out} {l0 l1 l2 l3 l4 : Option AV} {L2 : List (Nat × AV)} {St : List AV} {S : SS} : ev c 70 11 [l0, l1, l2, l3, l4] L2 St S = ev c 70 12 [l0, l1, l2, l3, l4] L2 (aI (-1) :: St) S := ev_go i70_11 rfl
theorem i70_12 : insAt 70 12 = some (.putfield 141, 3, (7, 1, 1, 0), 188) := rfl
theorem s70_12 {c : Nat → List AV → SS → Option Out} {l0 l1 l2 l3 l4 : Option AV} {j t : Nat} {x : Int32} {L2 : List (Nat × AV)} {St : List AV} {S : SS} : ev c 70 12 [l0, l1, l2, l3, l4] L2 (aI x :: aR (7, j, t) :: St) S = ev c 70 15 [l0, l1, l2, l3, l4] L2 St (setI S.1 (7, j, t) 1 x, S.2) := ev_go i70_12 rfl
theorem i70_15 : insAt 70 15 = some (.iconst 0, 1, (0, 0, 0, 0), 0) := rfl
theorem s70_15 {c : Nat → List AV → SS → Option Out} {l0 l1 l2 l3 l4 : Option AV} {L2 : List (Nat × AV)} {St : List AV} {S : SS} : ev c 70 15 [l0, l1, l2, l3, l4] L2 St S = ev c 70 16 [l0, l1, l2, l3, l4] L2 (aI 0 :: St) S := ev_go i70_15 rfl
theorem i70_16 : insAt 70 16 = some (.istore_n 3, 1, (0, 0, 0, 0), 0) := rfl
theorem s70_16 {c : Nat → List AV → SS → Option Out} {l0 l1 l2 l3 l4 : Option AV} {x : Int32} {L2 : List (Nat × AV)} {St : List AV} {S : SS} : ev c 70 16 [l0, l1, l2, l3, l4] L2 (aI x :: St) S = ev c 70 17 [l0, l1, l2, some (aI x), l4] (kil L2 3) St S := ev_go i70_16 rfl
theorem i70_17 : insAt 70 17 = some (.iload_n 3, 1, (0, 0, 0, 0), 0) := rfl
theorem s70_17 {c : Nat → List AV → SS → Option Out} {l0 l1 l2 l4 : Option AV} {x : Int32} {L2 : List (Nat × AV)} {St : List AV} {S : SS} : ev c 70 17 [l0, l1, l2, some (aI x), l4] L2 St S = ev c 70 18 [l0, l1, l2, some (aI x), l4] L2 (aI x :: St) S := ev_go i70_17 rfl
theorem i70_18 : insAt 70 18 = some (.bipush 8, 2, (0, 0, 0, 0), 0) := rfl
theorem s70_18 {c : Nat → List AV → SS → Option Out} {l0 l1 l2 l3 l4 : Option AV} {L2 : List (Nat × AV)} {St : List AV} {S : SS} : ev c 70 18 [l0, l1, l2, l3, l4] L2 St S = ev c 70 20 [l0, l1, l2, l3, l4] L2 (aI 8 :: St) S := ev_go i70_18 rfl
theorem i70_20 : insAt 70 20 = some (.if_icmp .ge 53, 3, (0, 0, 0, 0), 0) := rfl
theorem s70_20 {c : Nat → List AV → SS → Option Out} {l0 l1 l2 l3 l4 : Option AV} {x y : Int32} {L2 : List (Nat × AV)} {St : List AV} {S : SS} : ev c 70 20 [l0, l1, l2, l3, l4] L2 (aI y :: aI x :: St) S = if y ≤ x then ev c 70 73 [l0, l1, l2, l3, l4] L2 St S else ev c 70 23 [l0, l1, l2, l3, l4] L2 St S := ev_br i70_20 rfl
theorem i70_23 : insAt 70 23 = some (.iload_n 1, 1, (0, 0, 0, 0), 0) := rfl
theorem s70_23 {c : Nat → List AV → SS → Option Out} {l0 l2 l3 l4 : Option AV} {x : Int32} {L2 : List (Nat × AV)} {St : List AV} {S : SS} : ev c 70 23 [l0, some (aI x), l2, l3, l4] L2 St S = ev c 70 24 [l0, some (aI x), l2, l3, l4] L2 (aI x :: St) S := ev_go i70_23 rfl
theorem i70_24 : insAt 70 24 = some (.i2l, 1, (0, 0, 0, 0), 0) := rfl
theorem s70_24 {c : Nat → List AV → SS → Option Out} {l0 l1 l2 l3 l4 : Option AV} {x : Int32} {L2 : List (Nat × AV)} {St : List AV} {S : SS} : ev c 70 24 [l0, l1, l2, l3, l4] L2 (aI x :: St) S = ev c 70 25 [l0, l1, l2, l3, l4] L2 (aL x.toInt64 :: St) S := ev_go i70_24 rfl
theorem i70_25 : insAt 70 25 = some (.iload_n 3, 1, (0, 0, 0, 0), 0) := rfl
theorem s70_25 {c : Nat → List AV → SS → Option Out} {l0 l1 l2 l4 : Option AV} {x : Int32} {L2 : List (Nat × AV)} {St : List AV} {S : SS} : ev c 70 25 [l0, l1, l2, some (aI x), l4] L2 St S = ev c 70 26 [l0, l1, l2, some (aI x), l4] L2 (aI x :: St) S := ev_go i70_25 rfl
theorem i70_26 : insAt 70 26 = some (.invokestatic 129, 3, (42, 2, 1, 0), 189) := rfl
theorem s70_26 {c : Nat → List AV → SS → Option Out} {l0 l1 l2 l3 l4 : Option AV} {a0 : Int64} {a1 : Int32} {L2 : List (Nat × AV)} {S : SS} : ev c 70 26 [l0, l1, l2, l3, l4] L2 [aI a1, aL a0] S = ck (c 42 [aL a0, aI a1] S) (fun v S' => ev c 70 29 [l0, l1, l2, l3, l4] L2 (v.toList ++ []) S') := ev_call i70_26 rfl
theorem i70_29 : insAt 70 29 = some (.ifCond .eq 38, 3, (0, 0, 0, 0), 0) := rfl
theorem s70_29 {c : Nat → List AV → SS → Option Out} {l0 l1 l2 l3 l4 : Option AV} {x : Int32} {L2 : List (Nat × AV)} {St : List AV} {S : SS} : ev c 70 29 [l0, l1, l2, l3, l4] L2 (aI x :: St) S = if x = 0 then ev c 70 67 [l0, l1, l2, l3, l4] L2 St S else ev c 70 32 [l0, l1, l2, l3, l4] L2 St S := ev_br i70_29 rfl
theorem i70_32 : insAt 70 32 = some (.aload_n 0, 1, (0, 0, 0, 0), 0) := rfl
theorem s70_32 {c : Nat → List AV → SS → Option Out} {l1 l2 l3 l4 : Option AV} {o : OId} {L2 : List (Nat × AV)} {St : List AV} {S : SS} : ev c 70 32 [some (aR o), l1, l2, l3, l4] L2 St S = ev c 70 33 [some (aR o), l1, l2, l3, l4] L2 (aR o :: St) S := ev_go i70_32 rfl
theorem i70_33 : insAt 70 33 = some (.iload_n 3, 1, (0, 0, 0, 0), 0) := rfl
theorem s70_33 {c : Nat → List AV → SS → Option Out} {l0 l1 l2 l4 : Option AV} {x : Int32} {L2 : List (Nat × AV)} {St : List AV} {S : SS} : ev c 70 33 [l0, l1, l2, some (aI x), l4] L2 St S = ev c 70 34 [l0, l1, l2, some (aI x), l4] L2 (aI x :: St) S := ev_go i70_33 rfl
theorem i70_34 : insAt 70 34 = some (.invokevirtual 144, 3, (72, 1, 2, 8), 190) := rfl
theorem s70_34 {c : Nat → List AV → SS → Option Out} {l0 l1 l2 l3 l4 : Option AV} {a0 : Int32} {j t : Nat} {L2 : List (Nat × AV)} {S : SS} : ev c 70 34 [l0, l1, l2, l3, l4] L2 [aI a0, aR (8, j, t)] S = ck (c 72 [aR (8, j, t), aI a0] S) (fun v S' => ev c 70 37 [l0, l1, l2, l3, l4] L2 (v.toList ++ []) S') := ev_call i70_34 rfl
theorem i70_37 : insAt 70 37 = some (.istore 4, 2, (0, 0, 0, 0), 0) := rfl
theorem s70_37 {c : Nat → List AV → SS → Option Out} {l0 l1 l2 l3 l4 : Option AV} {x : Int32} {L2 : List (Nat × AV)} {St : List AV} {S : SS} : ev c 70 37 [l0, l1, l2, l3, l4] L2 (aI x :: St) S = ev c 70 39 [l0, l1, l2, l3, some (aI x)] (kil L2 4) St S := ev_go i70_37 rfl
theorem i70_39 : insAt 70 39 = some (.aload_n 0, 1, (0, 0, 0, 0), 0) := rfl
theorem s70_39 {c : Nat → List AV → SS → Option Out} {l1 l2 l3 l4 : Option AV} {o : OId} {L2 : List (Nat × AV)} {St : List AV} {S : SS} : ev c 70 39 [some (aR o), l1, l2, l3, l4] L2 St S = ev c 70 40 [some (aR o), l1, l2, l3, l4] L2 (aR o :: St) S := ev_go i70_39 rfl
theorem i70_40 : insAt 70 40 = some (.getfield 12, 3, (8, 1, 0, 0), 59) := rfl
theorem s70_40 {c : Nat → List AV → SS → Option Out} {l0 l1 l2 l3 l4 : Option AV} {j t : Nat} {L2 : List (Nat × AV)} {St : List AV} {S : SS} : ev c 70 40 [l0, l1, l2, l3, l4] L2 (aR (8, j, t) :: St) S = ev c 70 43 [l0, l1, l2, l3, l4] L2 (S.2.2.1 (8, j, t) 1 :: St) S := ev_go i70_40 rfl
theorem i70_43 : insAt 70 43 = some (.getfield 141, 3, (7, 1, 1, 0), 188) := rfl
theorem s70_43 {c : Nat → List AV → SS → Option Out} {l0 l1 l2 l3 l4 : Option AV} {j t : Nat} {L2 : List (Nat × AV)} {St : List AV} {S : SS} : ev c 70 43 [l0, l1, l2, l3, l4] L2 (aR (7, j, t) :: St) S = ev c 70 46 [l0, l1, l2, l3, l4] L2 (aI (S.1 (7, j, t) 1) :: St) S := ev_go i70_43 rfl
theorem i70_46 : insAt 70 46 = some (.iconst (-1), 1, (0, 0, 0, 0), 0) := rfl
theorem s70_46 {c : Nat → List AV → SS → Option Out} {l0 l1 l2 l3 l4 : Option AV} {L2 : List (Nat × AV)} {St : List AV} {S : SS} : ev c 70 46 [l0, l1, l2, l3, l4] L2 St S = ev c 70 47 [l0, l1, l2, l3, l4] L2 (aI (-1) :: St) S := ev_go i70_46 rfl
theorem i70_47 : insAt 70 47 = some (.if_icmp .eq 9, 3, (0, 0, 0, 0), 0) := rfl
theorem s70_47 {c : Nat → List AV → SS → Option Out} {l0 l1 l2 l3 l4 : Option AV} {x y : Int32} {L2 : List (Nat × AV)} {St : List AV} {S : SS} : ev c 70 47 [l0, l1, l2, l3, l4] L2 (aI y :: aI x :: St) S = if x = y then ev c 70 56 [l0, l1, l2, l3, l4] L2 St S else ev c 70 50 [l0, l1, l2, l3, l4] L2 St S := ev_br i70_47 rfl
theorem i70_50 : insAt 70 50 = some (.iload 4, 2, (0, 0, 0, 0), 0) := rfl
theorem s70_50 {c : Nat → List AV → SS → Option Out} {l0 l1 l2 l3 : Option AV} {x : Int32} {L2 : List (Nat × AV)} {St : List AV} {S : SS} : ev c 70 50 [l0, l1, l2, l3, some (aI x)] L2 St S = ev c 70 52 [l0, l1, l2, l3, some (aI x)] L2 (aI x :: St) S := ev_go i70_50 rfl
theorem i70_52 : insAt 70 52 = some (.iload_n 2, 1, (0, 0, 0, 0), 0) := rfl
theorem s70_52 {c : Nat → List AV → SS → Option Out} {l0 l1 l3 l4 : Option AV} {x : Int32} {L2 : List (Nat × AV)} {St : List AV} {S : SS} : ev c 70 52 [l0, l1, some (aI x), l3, l4] L2 St S = ev c 70 53 [l0, l1, some (aI x), l3, l4] L2 (aI x :: St) S := ev_go i70_52 rfl
theorem i70_53 : insAt 70 53 = some (.if_icmp .ge 14, 3, (0, 0, 0, 0), 0) := rfl
theorem s70_53 {c : Nat → List AV → SS → Option Out} {l0 l1 l2 l3 l4 : Option AV} {x y : Int32} {L2 : List (Nat × AV)} {St : List AV} {S : SS} : ev c 70 53 [l0, l1, l2, l3, l4] L2 (aI y :: aI x :: St) S = if y ≤ x then ev c 70 67 [l0, l1, l2, l3, l4] L2 St S else ev c 70 56 [l0, l1, l2, l3, l4] L2 St S := ev_br i70_53 rfl
theorem i70_56 : insAt 70 56 = some (.aload_n 0, 1, (0, 0, 0, 0), 0) := rfl
theorem s70_56 {c : Nat → List AV → SS → Option Out} {l1 l2 l3 l4 : Option AV} {o : OId} {L2 : List (Nat × AV)} {St : List AV} {S : SS} : ev c 70 56 [some (aR o), l1, l2, l3, l4] L2 St S = ev c 70 57 [some (aR o), l1, l2, l3, l4] L2 (aR o :: St) S := ev_go i70_56 rfl
theorem i70_57 : insAt 70 57 = some (.getfield 12, 3, (8, 1, 0, 0), 59) := rfl
theorem s70_57 {c : Nat → List AV → SS → Option Out} {l0 l1 l2 l3 l4 : Option AV} {j t : Nat} {L2 : List (Nat × AV)} {St : List AV} {S : SS} : ev c 70 57 [l0, l1, l2, l3, l4] L2 (aR (8, j, t) :: St) S = ev c 70 60 [l0, l1, l2, l3, l4] L2 (S.2.2.1 (8, j, t) 1 :: St) S := ev_go i70_57 rfl
theorem i70_60 : insAt 70 60 = some (.iload_n 3, 1, (0, 0, 0, 0), 0) := rfl
theorem s70_60 {c : Nat → List AV → SS → Option Out} {l0 l1 l2 l4 : Option AV} {x : Int32} {L2 : List (Nat × AV)} {St : List AV} {S : SS} : ev c 70 60 [l0, l1, l2, some (aI x), l4] L2 St S = ev c 70 61 [l0, l1, l2, some (aI x), l4] L2 (aI x :: St) S := ev_go i70_60 rfl
theorem i70_61 : insAt 70 61 = some (.putfield 141, 3, (7, 1, 1, 0), 188) := rfl
theorem s70_61 {c : Nat → List AV → SS → Option Out} {l0 l1 l2 l3 l4 : Option AV} {j t : Nat} {x : Int32} {L2 : List (Nat × AV)} {St : List AV} {S : SS} : ev c 70 61 [l0, l1, l2, l3, l4] L2 (aI x :: aR (7, j, t) :: St) S = ev c 70 64 [l0, l1, l2, l3, l4] L2 St (setI S.1 (7, j, t) 1 x, S.2) := ev_go i70_61 rfl
theorem i70_64 : insAt 70 64 = some (.iload 4, 2, (0, 0, 0, 0), 0) := rfl
theorem s70_64 {c : Nat → List AV → SS → Option Out} {l0 l1 l2 l3 : Option AV} {x : Int32} {L2 : List (Nat × AV)} {St : List AV} {S : SS} : ev c 70 64 [l0, l1, l2, l3, some (aI x)] L2 St S = ev c 70 66 [l0, l1, l2, l3, some (aI x)] L2 (aI x :: St) S := ev_go i70_64 rfl
theorem i70_66 : insAt 70 66 = some (.istore_n 2, 1, (0, 0, 0, 0), 0) := rfl
theorem s70_66 {c : Nat → List AV → SS → Option Out} {l0 l1 l2 l3 l4 : Option AV} {x : Int32} {L2 : List (Nat × AV)} {St : List AV} {S : SS} : ev c 70 66 [l0, l1, l2, l3, l4] L2 (aI x :: St) S = ev c 70 67 [l0, l1, some (aI x), l3, l4] (kil L2 2) St S := ev_go i70_66 rfl
theorem i70_67 : insAt 70 67 = some (.iinc 3 1, 3, (0, 0, 0, 0), 0) := rfl
theorem s70_67 {c : Nat → List AV → SS → Option Out} {l0 l1 l2 l4 : Option AV} {x : Int32} {L2 : List (Nat × AV)} {St : List AV} {S : SS} : ev c 70 67 [l0, l1, l2, some (aI x), l4] L2 St S = ev c 70 70 [l0, l1, l2, some (aI (x + 1)), l4] (kil L2 3) St S := ev_go i70_67 rfl
theorem i70_70 : insAt 70 70 = some (.goto (-53), 3, (0, 0, 0, 0), 0) := rfl
theorem s70_70 {c : Nat → List AV → SS → Option Out} {l0 l1 l2 l3 l4 : Option AV} {L2 : List (Nat × AV)} {St : List AV} {S : SS} : ev c 70 70 [l0, l1, l2, l3, l4] L2 St S = ev c 70 17 [l0, l1, l2, l3, l4] L2 St S := ev_go i70_70 rfl
theorem i70_73 : insAt 70 73 = some (.aload_n 0, 1, (0, 0, 0, 0), 0) := rfl
theorem s70_73 {c : Nat → List AV → SS → Option Out} {l1 l2 l3 l4 : Option AV} {o : OId} {L2 : List (Nat × AV)} {St : List AV} {S : SS} : ev c 70 73 [some (aR o), l1, l2, l3, l4] L2 St S = ev c 70 74 [some (aR o), l1, l2, l3, l4] L2 (aR o :: St) S := ev_go i70_73 rfl
theorem i70_74 : insAt 70 74 = some (.getfield 12, 3, (8, 1, 0, 0), 59) := rfl
theorem s70_74 {c : Nat → List AV → SS → Option Out} {l0 l1 l2 l3 l4 : Option AV} {j t : Nat} {L2 : List (Nat × AV)} {St : List AV} {S : SS} : ev c 70 74 [l0, l1, l2, l3, l4] L2 (aR (8, j, t) :: St) S = ev c 70 77 [l0, l1, l2, l3, l4] L2 (S.2.2.1 (8, j, t) 1 :: St) S := ev_go i70_74 rfl
theorem i70_77 : insAt 70 77 = some (.getfield 141, 3, (7, 1, 1, 0), 188) := rfl
theorem s70_77 {c : Nat → List AV → SS → Option Out} {l0 l1 l2 l3 l4 : Option AV} {j t : Nat} {L2 : List (Nat × AV)} {St : List AV} {S : SS} : ev c 70 77 [l0, l1, l2, l3, l4] L2 (aR (7, j, t) :: St) S = ev c 70 80 [l0, l1, l2, l3, l4] L2 (aI (S.1 (7, j, t) 1) :: St) S := ev_go i70_77 rfl
theorem i70_80 : insAt 70 80 = some (.iconst (-1), 1, (0, 0, 0, 0), 0) := rfl
theorem s70_80 {c : Nat → List AV → SS → Option Out} {l0 l1 l2 l3 l4 : Option AV} {L2 : List (Nat × AV)} {St : List AV} {S : SS} : ev c 70 80 [l0, l1, l2, l3, l4] L2 St S = ev c 70 81 [l0, l1, l2, l3, l4] L2 (aI (-1) :: St) S := ev_go i70_80 rfl
theorem i70_81 : insAt 70 81 = some (.if_icmp .eq 7, 3, (0, 0, 0, 0), 0) := rfl
theorem s70_81 {c : Nat → List AV → SS → Option Out} {l0 l1 l2 l3 l4 : Option AV} {x y : Int32} {L2 : List (Nat × AV)} {St : List AV} {S : SS} : ev c 70 81 [l0, l1, l2, l3, l4] L2 (aI y :: aI x :: St) S = if x = y then ev c 70 88 [l0, l1, l2, l3, l4] L2 St S else ev c 70 84 [l0, l1, l2, l3, l4] L2 St S := ev_br i70_81 rfl
theorem i70_84 : insAt 70 84 = some (.iconst 1, 1, (0, 0, 0, 0), 0) := rfl
theorem s70_84 {c : Nat → List AV → SS → Option Out} {l0 l1 l2 l3 l4 : Option AV} {L2 : List (Nat × AV)} {St : List AV} {S : SS} : ev c 70 84 [l0, l1, l2, l3, l4] L2 St S = ev c 70 85 [l0, l1, l2, l3, l4] L2 (aI 1 :: St) S := ev_go i70_84 rfl
theorem i70_85 : insAt 70 85 = some (.goto 4, 3, (0, 0, 0, 0), 0) := rfl
theorem s70_85 {c : Nat → List AV → SS → Option Out} {l0 l1 l2 l3 l4 : Option AV} {L2 : List (Nat × AV)} {St : List AV} {S : SS} : ev c 70 85 [l0, l1, l2, l3, l4] L2 St S = ev c 70 89 [l0, l1, l2, l3, l4] L2 St S := ev_go i70_85 rfl
theorem i70_88 : insAt 70 88 = some (.iconst 0, 1, (0, 0, 0, 0), 0) := rfl
theorem s70_88 {c : Nat → List AV → SS → Option Out} {l0 l1 l2 l3 l4 : Option AV} {L2 : List (Nat × AV)} {St : List AV} {S : SS} : ev c 70 88 [l0, l1, l2, l3, l4] L2 St S = ev c 70 89 [l0, l1, l2, l3, l4] L2 (aI 0 :: St) S := ev_go i70_88 rfl
theorem i70_89 : insAt 70 89 = some (.ireturn, 1, (0, 0, 0, 0), 0) := rfl
theorem s70_89 {c : Nat → List AV → SS → Option Out} {l0 l1 l2 l3 l4 : Option AV} {x : Int32} {L2 : List (Nat × AV)} {S : SS} : ev c 70 89 [l0, l1, l2, l3, l4] L2 [aI x] S = if x = 0 ∨ x = 1 then some (.inl (some (aI x)), S) else none := ev_rt i70_89 rfl
theorem m70 {d : Nat} {o : OId} {S : SS} : evm (d + 1) 70 [aR o] S = ev (evm d) 70 0 [some (aR o), none, none, none, none] [] [] S := evm_s (n := 5) rfl (Nat.le_of_ble_eq_true rfl) rfl rfl
/-! FrequencyOffice$Search.openToServed()I -/
theorem i71_0 : insAt 71 0 = some (.lconst 0, 1, (0, 0, 0, 0), 0) := rfl
theorem s71_0 {c : Nat → List AV → SS → Option Out} {l0 l1 l2 l3 : Option AV} {L2 : List (Nat × AV)} {St : List AV} {S : SS} : ev c 71 0 [l0, l1, l2, l3] L2 St S = ev c 71 1 [l0, l1, l2, l3] L2 (aL 0 :: St) S := ev_go i71_0 rfl
theorem i71_1 : insAt 71 1 = some (.lstore_n 1, 1, (0, 0, 0, 0), 0) := rfl
theorem s71_1 {c : Nat → List AV → SS → Option Out} {l0 l1 l2 l3 : Option AV} {x : Int64} {L2 : List (Nat × AV)} {St : List AV} {S : SS} : ev c 71 1 [l0, l1, l2, l3] L2 (aL x :: St) S = ev c 71 2 [l0, none, none, l3] ((1, aL x) :: kil2 L2 1) St S := ev_go i71_1 rfl
theorem i71_2 : insAt 71 2 = some (.iconst 0, 1, (0, 0, 0, 0), 0) := rfl
theorem s71_2 {c : Nat → List AV → SS → Option Out} {l0 l1 l2 l3 : Option AV} {L2 : List (Nat × AV)} {St : List AV} {S : SS} : ev c 71 2 [l0, l1, l2, l3] L2 St S = ev c 71 3 [l0, l1, l2, l3] L2 (aI 0 :: St) S := ev_go i71_2 rfl
theorem i71_3 : insAt 71 3 = some (.istore_n 3, 1, (0, 0, 0, 0), 0) := rfl
theorem s71_3 {c : Nat → List AV → SS → Option Out} {l0 l1 l2 l3 : Option AV} {x : Int32} {L2 : List (Nat × AV)} {St : List AV} {S : SS} : ev c 71 3 [l0, l1, l2, l3] L2 (aI x :: St) S = ev c 71 4 [l0, l1, l2, some (aI x)] (kil L2 3) St S := ev_go i71_3 rfl
theorem i71_4 : insAt 71 4 = some (.iload_n 3, 1, (0, 0, 0, 0), 0) := rfl
theorem s71_4 {c : Nat → List AV → SS → Option Out} {l0 l1 l2 : Option AV} {x : Int32} {L2 : List (Nat × AV)} {St : List AV} {S : SS} : ev c 71 4 [l0, l1, l2, some (aI x)] L2 St S = ev c 71 5 [l0, l1, l2, some (aI x)] L2 (aI x :: St) S := ev_go i71_4 rfl
theorem i71_5 : insAt 71 5 = some (.aload_n 0, 1, (0, 0, 0, 0), 0) := rfl
theorem s71_5 {c : Nat → List AV → SS → Option Out} {l1 l2 l3 : Option AV} {o : OId} {L2 : List (Nat × AV)} {St : List AV} {S : SS} : ev c 71 5 [some (aR o), l1, l2, l3] L2 St S = ev c 71 6 [some (aR o), l1, l2, l3] L2 (aR o :: St) S := ev_go i71_5 rfl
theorem i71_6 : insAt 71 6 = some (.getfield 36, 3, (8, 0, 0, 0), 65) := rfl
theorem s71_6 {c : Nat → List AV → SS → Option Out} {l0 l1 l2 l3 : Option AV} {j t : Nat} {L2 : List (Nat × AV)} {St : List AV} {S : SS} : ev c 71 6 [l0, l1, l2, l3] L2 (aR (8, j, t) :: St) S = ev c 71 9 [l0, l1, l2, l3] L2 (S.2.2.1 (8, j, t) 0 :: St) S := ev_go i71_6 rfl
theorem i71_9 : insAt 71 9 = some (.getfield 46, 3, (6, 0, 1, 0), 172) := rfl
theorem s71_9 {c : Nat → List AV → SS → Option Out} {l0 l1 l2 l3 : Option AV} {j t : Nat} {L2 : List (Nat × AV)} {St : List AV} {S : SS} : ev c 71 9 [l0, l1, l2, l3] L2 (aR (6, j, t) :: St) S = ev c 71 12 [l0, l1, l2, l3] L2 (aI (S.1 (6, j, t) 0) :: St) S := ev_go i71_9 rfl
theorem i71_12 : insAt 71 12 = some (.if_icmp .ge 34, 3, (0, 0, 0, 0), 0) := rfl
theorem s71_12 {c : Nat → List AV → SS → Option Out} {l0 l1 l2 l3 : Option AV} {x y : Int32} {L2 : List (Nat × AV)} {St : List AV} {S : SS} : ev c 71 12 [l0, l1, l2, l3] L2 (aI y :: aI x :: St) S = if y ≤ x then ev c 71 46 [l0, l1, l2, l3] L2 St S else ev c 71 15 [l0, l1, l2, l3] L2 St S := ev_br i71_12 rfl
theorem i71_15 : insAt 71 15 = some (.lload_n 1, 1, (0, 0, 0, 0), 0) := rfl
theorem s71_15 {c : Nat → List AV → SS → Option Out} {l0 l1 l2 l3 : Option AV} {x : Int64} {L2 : List (Nat × AV)} {St : List AV} {S : SS} (h : ldL L2 1 = some x) : ev c 71 15 [l0, l1, l2, l3] L2 St S = ev c 71 16 [l0, l1, l2, l3] L2 (aL x :: St) S := ev_go i71_15 (by simp only [stepI]; exact (congrArg (fun q => match q with | some x => nx (15 + 1) [l0, l1, l2, l3] L2 (aL x :: St) S | none => none) h))
theorem i71_16 : insAt 71 16 = some (.aload_n 0, 1, (0, 0, 0, 0), 0) := rfl
theorem s71_16 {c : Nat → List AV → SS → Option Out} {l1 l2 l3 : Option AV} {o : OId} {L2 : List (Nat × AV)} {St : List AV} {S : SS} : ev c 71 16 [some (aR o), l1, l2, l3] L2 St S = ev c 71 17 [some (aR o), l1, l2, l3] L2 (aR o :: St) S := ev_go i71_16 rfl
theorem i71_17 : insAt 71 17 = some (.getfield 36, 3, (8, 0, 0, 0), 65) := rfl
theorem s71_17 {c : Nat → List AV → SS → Option Out} {l0 l1 l2 l3 : Option AV} {j t : Nat} {L2 : List (Nat × AV)} {St : List AV} {S : SS} : ev c 71 17 [l0, l1, l2, l3] L2 (aR (8, j, t) :: St) S = ev c 71 20 [l0, l1, l2, l3] L2 (S.2.2.1 (8, j, t) 0 :: St) S := ev_go i71_17 rfl
theorem i71_20 : insAt 71 20 = some (.getfield 95, 3, (6, 3, 1, 0), 191) := rfl
theorem s71_20 {c : Nat → List AV → SS → Option Out} {l0 l1 l2 l3 : Option AV} {j t : Nat} {L2 : List (Nat × AV)} {St : List AV} {S : SS} : ev c 71 20 [l0, l1, l2, l3] L2 (aR (6, j, t) :: St) S = ev c 71 23 [l0, l1, l2, l3] L2 (S.2.2.1 (6, j, t) 3 :: St) S := ev_go i71_20 rfl
theorem i71_23 : insAt 71 23 = some (.iload_n 3, 1, (0, 0, 0, 0), 0) := rfl
theorem s71_23 {c : Nat → List AV → SS → Option Out} {l0 l1 l2 : Option AV} {x : Int32} {L2 : List (Nat × AV)} {St : List AV} {S : SS} : ev c 71 23 [l0, l1, l2, some (aI x)] L2 St S = ev c 71 24 [l0, l1, l2, some (aI x)] L2 (aI x :: St) S := ev_go i71_23 rfl
theorem i71_24 : insAt 71 24 = some (.invokestatic 52, 3, (31, 2, 1, 0), 174) := rfl
theorem s71_24 {c : Nat → List AV → SS → Option Out} {l0 l1 l2 l3 : Option AV} {t0 : AV} {a0 : OId} {a1 : Int32} {L2 : List (Nat × AV)} {S : SS} : ev c 71 24 [l0, l1, l2, l3] L2 [aI a1, aR a0, t0] S = ck (c 31 [aR a0, aI a1] S) (fun v S' => ev c 71 27 [l0, l1, l2, l3] L2 (v.toList ++ [t0]) S') := ev_call i71_24 rfl
theorem i71_27 : insAt 71 27 = some (.aload_n 0, 1, (0, 0, 0, 0), 0) := rfl
theorem s71_27 {c : Nat → List AV → SS → Option Out} {l1 l2 l3 : Option AV} {o : OId} {L2 : List (Nat × AV)} {St : List AV} {S : SS} : ev c 71 27 [some (aR o), l1, l2, l3] L2 St S = ev c 71 28 [some (aR o), l1, l2, l3] L2 (aR o :: St) S := ev_go i71_27 rfl
theorem i71_28 : insAt 71 28 = some (.getfield 18, 3, (8, 2, 0, 0), 60) := rfl
theorem s71_28 {c : Nat → List AV → SS → Option Out} {l0 l1 l2 l3 : Option AV} {j t : Nat} {L2 : List (Nat × AV)} {St : List AV} {S : SS} : ev c 71 28 [l0, l1, l2, l3] L2 (aR (8, j, t) :: St) S = ev c 71 31 [l0, l1, l2, l3] L2 (S.2.2.1 (8, j, t) 2 :: St) S := ev_go i71_28 rfl
theorem i71_31 : insAt 71 31 = some (.iload_n 3, 1, (0, 0, 0, 0), 0) := rfl
theorem s71_31 {c : Nat → List AV → SS → Option Out} {l0 l1 l2 : Option AV} {x : Int32} {L2 : List (Nat × AV)} {St : List AV} {S : SS} : ev c 71 31 [l0, l1, l2, some (aI x)] L2 St S = ev c 71 32 [l0, l1, l2, some (aI x)] L2 (aI x :: St) S := ev_go i71_31 rfl
theorem i71_32 : insAt 71 32 = some (.invokestatic 52, 3, (31, 2, 1, 0), 174) := rfl
theorem s71_32 {c : Nat → List AV → SS → Option Out} {l0 l1 l2 l3 : Option AV} {t0 t1 : AV} {a0 : OId} {a1 : Int32} {L2 : List (Nat × AV)} {S : SS} : ev c 71 32 [l0, l1, l2, l3] L2 [aI a1, aR a0, t0, t1] S = ck (c 31 [aR a0, aI a1] S) (fun v S' => ev c 71 35 [l0, l1, l2, l3] L2 (v.toList ++ [t0, t1]) S') := ev_call i71_32 rfl
theorem i71_35 : insAt 71 35 = some (.invokestatic 98, 3, (44, 2, 1, 0), 192) := rfl
theorem s71_35 {c : Nat → List AV → SS → Option Out} {l0 l1 l2 l3 : Option AV} {t0 : AV} {a0 : Int32} {a1 : Int32} {L2 : List (Nat × AV)} {S : SS} : ev c 71 35 [l0, l1, l2, l3] L2 [aI a1, aI a0, t0] S = ck (c 44 [aI a0, aI a1] S) (fun v S' => ev c 71 38 [l0, l1, l2, l3] L2 (v.toList ++ [t0]) S') := ev_call i71_35 rfl
theorem i71_38 : insAt 71 38 = some (.lor, 1, (0, 0, 0, 0), 0) := rfl
theorem s71_38 {c : Nat → List AV → SS → Option Out} {l0 l1 l2 l3 : Option AV} {x y : Int64} {L2 : List (Nat × AV)} {St : List AV} {S : SS} : ev c 71 38 [l0, l1, l2, l3] L2 (aL y :: aL x :: St) S = ev c 71 39 [l0, l1, l2, l3] L2 (aL (x ||| y) :: St) S := ev_go i71_38 rfl
theorem i71_39 : insAt 71 39 = some (.lstore_n 1, 1, (0, 0, 0, 0), 0) := rfl
theorem s71_39 {c : Nat → List AV → SS → Option Out} {l0 l1 l2 l3 : Option AV} {x : Int64} {L2 : List (Nat × AV)} {St : List AV} {S : SS} : ev c 71 39 [l0, l1, l2, l3] L2 (aL x :: St) S = ev c 71 40 [l0, none, none, l3] ((1, aL x) :: kil2 L2 1) St S := ev_go i71_39 rfl
theorem i71_40 : insAt 71 40 = some (.iinc 3 1, 3, (0, 0, 0, 0), 0) := rfl
theorem s71_40 {c : Nat → List AV → SS → Option Out} {l0 l1 l2 : Option AV} {x : Int32} {L2 : List (Nat × AV)} {St : List AV} {S : SS} : ev c 71 40 [l0, l1, l2, some (aI x)] L2 St S = ev c 71 43 [l0, l1, l2, some (aI (x + 1))] (kil L2 3) St S := ev_go i71_40 rfl
theorem i71_43 : insAt 71 43 = some (.goto (-39), 3, (0, 0, 0, 0), 0) := rfl
theorem s71_43 {c : Nat → List AV → SS → Option Out} {l0 l1 l2 l3 : Option AV} {L2 : List (Nat × AV)} {St : List AV} {S : SS} : ev c 71 43 [l0, l1, l2, l3] L2 St S = ev c 71 4 [l0, l1, l2, l3] L2 St S := ev_go i71_43 rfl
theorem i71_46 : insAt 71 46 = some (.lload_n 1, 1, (0, 0, 0, 0), 0) := rfl
theorem s71_46 {c : Nat → List AV → SS → Option Out} {l0 l1 l2 l3 : Option AV} {x : Int64} {L2 : List (Nat × AV)} {St : List AV} {S : SS} (h : ldL L2 1 = some x) : ev c 71 46 [l0, l1, l2, l3] L2 St S = ev c 71 47 [l0, l1, l2, l3] L2 (aL x :: St) S := ev_go i71_46 (by simp only [stepI]; exact (congrArg (fun q => match q with | some x => nx (46 + 1) [l0, l1, l2, l3] L2 (aL x :: St) S | none => none) h))
theorem i71_47 : insAt 71 47 = some (.ldc2_w 102, 3, (193, 0, 0, 0), -1) := rfl
theorem s71_47 {c : Nat → List AV → SS → Option Out} {l0 l1 l2 l3 : Option AV} {L2 : List (Nat × AV)} {St : List AV} {S : SS} : ev c 71 47 [l0, l1, l2, l3] L2 St S = ev c 71 50 [l0, l1, l2, l3] L2 (aL (-1) :: St) S := ev_go i71_47 rfl
theorem i71_50 : insAt 71 50 = some (.lxor, 1, (0, 0, 0, 0), 0) := rfl
theorem s71_50 {c : Nat → List AV → SS → Option Out} {l0 l1 l2 l3 : Option AV} {x y : Int64} {L2 : List (Nat × AV)} {St : List AV} {S : SS} : ev c 71 50 [l0, l1, l2, l3] L2 (aL y :: aL x :: St) S = ev c 71 51 [l0, l1, l2, l3] L2 (aL (x ^^^ y) :: St) S := ev_go i71_50 rfl
theorem i71_51 : insAt 71 51 = some (.aload_n 0, 1, (0, 0, 0, 0), 0) := rfl
theorem s71_51 {c : Nat → List AV → SS → Option Out} {l1 l2 l3 : Option AV} {o : OId} {L2 : List (Nat × AV)} {St : List AV} {S : SS} : ev c 71 51 [some (aR o), l1, l2, l3] L2 St S = ev c 71 52 [some (aR o), l1, l2, l3] L2 (aR o :: St) S := ev_go i71_51 rfl
theorem i71_52 : insAt 71 52 = some (.getfield 29, 3, (8, 5, 0, 0), 63) := rfl
theorem s71_52 {c : Nat → List AV → SS → Option Out} {l0 l1 l2 l3 : Option AV} {j t : Nat} {L2 : List (Nat × AV)} {St : List AV} {S : SS} : ev c 71 52 [l0, l1, l2, l3] L2 (aR (8, j, t) :: St) S = ev c 71 55 [l0, l1, l2, l3] L2 (aI (S.1 (8, j, t) 5) :: St) S := ev_go i71_52 rfl
theorem i71_55 : insAt 71 55 = some (.i2l, 1, (0, 0, 0, 0), 0) := rfl
theorem s71_55 {c : Nat → List AV → SS → Option Out} {l0 l1 l2 l3 : Option AV} {x : Int32} {L2 : List (Nat × AV)} {St : List AV} {S : SS} : ev c 71 55 [l0, l1, l2, l3] L2 (aI x :: St) S = ev c 71 56 [l0, l1, l2, l3] L2 (aL x.toInt64 :: St) S := ev_go i71_55 rfl
theorem i71_56 : insAt 71 56 = some (.land, 1, (0, 0, 0, 0), 0) := rfl
theorem s71_56 {c : Nat → List AV → SS → Option Out} {l0 l1 l2 l3 : Option AV} {x y : Int64} {L2 : List (Nat × AV)} {St : List AV} {S : SS} : ev c 71 56 [l0, l1, l2, l3] L2 (aL y :: aL x :: St) S = ev c 71 57 [l0, l1, l2, l3] L2 (aL (x &&& y) :: St) S := ev_go i71_56 rfl
theorem i71_57 : insAt 71 57 = some (.l2i, 1, (0, 0, 0, 0), 0) := rfl
theorem s71_57 {c : Nat → List AV → SS → Option Out} {l0 l1 l2 l3 : Option AV} {x : Int64} {L2 : List (Nat × AV)} {St : List AV} {S : SS} : ev c 71 57 [l0, l1, l2, l3] L2 (aL x :: St) S = ev c 71 58 [l0, l1, l2, l3] L2 (aI x.toInt32 :: St) S := ev_go i71_57 rfl
theorem i71_58 : insAt 71 58 = some (.ireturn, 1, (0, 0, 0, 0), 0) := rfl
theorem s71_58 {c : Nat → List AV → SS → Option Out} {l0 l1 l2 l3 : Option AV} {x : Int32} {L2 : List (Nat × AV)} {S : SS} : ev c 71 58 [l0, l1, l2, l3] L2 [aI x] S = some (.inl (some (aI x)), S) := ev_end i71_58 rfl
theorem m71 {d : Nat} {o : OId} {S : SS} : evm (d + 1) 71 [aR o] S = ev (evm d) 71 0 [some (aR o), none, none, none] [] [] S := evm_s (n := 4) rfl (Nat.le_of_ble_eq_true rfl) rfl rfl
/-! FrequencyOffice$Search.disturbanceOfServed(I)I -/
theorem i72_0 : insAt 72 0 = some (.iconst 0, 1, (0, 0, 0, 0), 0) := rfl
theorem s72_0 {c : Nat → List AV → SS → Option Out} {l0 l1 l2 l3 : Option AV} {L2 : List (Nat × AV)} {St : List AV} {S : SS} : ev c 72 0 [l0, l1, l2, l3] L2 St S = ev c 72 1 [l0, l1, l2, l3] L2 (aI 0 :: St) S := ev_go i72_0 rfl
theorem i72_1 : insAt 72 1 = some (.istore_n 2, 1, (0, 0, 0, 0), 0) := rfl
theorem s72_1 {c : Nat → List AV → SS → Option Out} {l0 l1 l2 l3 : Option AV} {x : Int32} {L2 : List (Nat × AV)} {St : List AV} {S : SS} : ev c 72 1 [l0, l1, l2, l3] L2 (aI x :: St) S = ev c 72 2 [l0, l1, some (aI x), l3] (kil L2 2) St S := ev_go i72_1 rfl
theorem i72_2 : insAt 72 2 = some (.iconst 0, 1, (0, 0, 0, 0), 0) := rfl
theorem s72_2 {c : Nat → List AV → SS → Option Out} {l0 l1 l2 l3 : Option AV} {L2 : List (Nat × AV)} {St : List AV} {S : SS} : ev c 72 2 [l0, l1, l2, l3] L2 St S = ev c 72 3 [l0, l1, l2, l3] L2 (aI 0 :: St) S := ev_go i72_2 rfl
theorem i72_3 : insAt 72 3 = some (.istore_n 3, 1, (0, 0, 0, 0), 0) := rfl
theorem s72_3 {c : Nat → List AV → SS → Option Out} {l0 l1 l2 l3 : Option AV} {x : Int32} {L2 : List (Nat × AV)} {St : List AV} {S : SS} : ev c 72 3 [l0, l1, l2, l3] L2 (aI x :: St) S = ev c 72 4 [l0, l1, l2, some (aI x)] (kil L2 3) St S := ev_go i72_3 rfl
theorem i72_4 : insAt 72 4 = some (.iload_n 3, 1, (0, 0, 0, 0), 0) := rfl
theorem s72_4 {c : Nat → List AV → SS → Option Out} {l0 l1 l2 : Option AV} {x : Int32} {L2 : List (Nat × AV)} {St : List AV} {S : SS} : ev c 72 4 [l0, l1, l2, some (aI x)] L2 St S = ev c 72 5 [l0, l1, l2, some (aI x)] L2 (aI x :: St) S := ev_go i72_4 rfl
theorem i72_5 : insAt 72 5 = some (.aload_n 0, 1, (0, 0, 0, 0), 0) := rfl
theorem s72_5 {c : Nat → List AV → SS → Option Out} {l1 l2 l3 : Option AV} {o : OId} {L2 : List (Nat × AV)} {St : List AV} {S : SS} : ev c 72 5 [some (aR o), l1, l2, l3] L2 St S = ev c 72 6 [some (aR o), l1, l2, l3] L2 (aR o :: St) S := ev_go i72_5 rfl
theorem i72_6 : insAt 72 6 = some (.getfield 36, 3, (8, 0, 0, 0), 65) := rfl
theorem s72_6 {c : Nat → List AV → SS → Option Out} {l0 l1 l2 l3 : Option AV} {j t : Nat} {L2 : List (Nat × AV)} {St : List AV} {S : SS} : ev c 72 6 [l0, l1, l2, l3] L2 (aR (8, j, t) :: St) S = ev c 72 9 [l0, l1, l2, l3] L2 (S.2.2.1 (8, j, t) 0 :: St) S := ev_go i72_6 rfl
theorem i72_9 : insAt 72 9 = some (.getfield 46, 3, (6, 0, 1, 0), 172) := rfl
theorem s72_9 {c : Nat → List AV → SS → Option Out} {l0 l1 l2 l3 : Option AV} {j t : Nat} {L2 : List (Nat × AV)} {St : List AV} {S : SS} : ev c 72 9 [l0, l1, l2, l3] L2 (aR (6, j, t) :: St) S = ev c 72 12 [l0, l1, l2, l3] L2 (aI (S.1 (6, j, t) 0) :: St) S := ev_go i72_9 rfl
theorem i72_12 : insAt 72 12 = some (.if_icmp .ge 39, 3, (0, 0, 0, 0), 0) := rfl
theorem s72_12 {c : Nat → List AV → SS → Option Out} {l0 l1 l2 l3 : Option AV} {x y : Int32} {L2 : List (Nat × AV)} {St : List AV} {S : SS} : ev c 72 12 [l0, l1, l2, l3] L2 (aI y :: aI x :: St) S = if y ≤ x then ev c 72 51 [l0, l1, l2, l3] L2 St S else ev c 72 15 [l0, l1, l2, l3] L2 St S := ev_br i72_12 rfl
theorem i72_15 : insAt 72 15 = some (.iload_n 2, 1, (0, 0, 0, 0), 0) := rfl
theorem s72_15 {c : Nat → List AV → SS → Option Out} {l0 l1 l3 : Option AV} {x : Int32} {L2 : List (Nat × AV)} {St : List AV} {S : SS} : ev c 72 15 [l0, l1, some (aI x), l3] L2 St S = ev c 72 16 [l0, l1, some (aI x), l3] L2 (aI x :: St) S := ev_go i72_15 rfl
theorem i72_16 : insAt 72 16 = some (.aload_n 0, 1, (0, 0, 0, 0), 0) := rfl
theorem s72_16 {c : Nat → List AV → SS → Option Out} {l1 l2 l3 : Option AV} {o : OId} {L2 : List (Nat × AV)} {St : List AV} {S : SS} : ev c 72 16 [some (aR o), l1, l2, l3] L2 St S = ev c 72 17 [some (aR o), l1, l2, l3] L2 (aR o :: St) S := ev_go i72_16 rfl
theorem i72_17 : insAt 72 17 = some (.iload_n 3, 1, (0, 0, 0, 0), 0) := rfl
theorem s72_17 {c : Nat → List AV → SS → Option Out} {l0 l1 l2 : Option AV} {x : Int32} {L2 : List (Nat × AV)} {St : List AV} {S : SS} : ev c 72 17 [l0, l1, l2, some (aI x)] L2 St S = ev c 72 18 [l0, l1, l2, some (aI x)] L2 (aI x :: St) S := ev_go i72_17 rfl
theorem i72_18 : insAt 72 18 = some (.invokevirtual 104, 3, (73, 1, 2, 8), 194) := rfl
theorem s72_18 {c : Nat → List AV → SS → Option Out} {l0 l1 l2 l3 : Option AV} {t0 : AV} {a0 : Int32} {j t : Nat} {L2 : List (Nat × AV)} {S : SS} : ev c 72 18 [l0, l1, l2, l3] L2 [aI a0, aR (8, j, t), t0] S = ck (c 73 [aR (8, j, t), aI a0] S) (fun v S' => ev c 72 21 [l0, l1, l2, l3] L2 (v.toList ++ [t0]) S') := ev_call i72_18 rfl
theorem i72_21 : insAt 72 21 = some (.ifCond .eq 21, 3, (0, 0, 0, 0), 0) := rfl
theorem s72_21 {c : Nat → List AV → SS → Option Out} {l0 l1 l2 l3 : Option AV} {x : Int32} {L2 : List (Nat × AV)} {St : List AV} {S : SS} : ev c 72 21 [l0, l1, l2, l3] L2 (aI x :: St) S = if x = 0 then ev c 72 42 [l0, l1, l2, l3] L2 St S else ev c 72 24 [l0, l1, l2, l3] L2 St S := ev_br i72_21 rfl
theorem i72_24 : insAt 72 24 = some (.aload_n 0, 1, (0, 0, 0, 0), 0) := rfl
theorem s72_24 {c : Nat → List AV → SS → Option Out} {l1 l2 l3 : Option AV} {o : OId} {L2 : List (Nat × AV)} {St : List AV} {S : SS} : ev c 72 24 [some (aR o), l1, l2, l3] L2 St S = ev c 72 25 [some (aR o), l1, l2, l3] L2 (aR o :: St) S := ev_go i72_24 rfl
theorem i72_25 : insAt 72 25 = some (.getfield 36, 3, (8, 0, 0, 0), 65) := rfl
theorem s72_25 {c : Nat → List AV → SS → Option Out} {l0 l1 l2 l3 : Option AV} {j t : Nat} {L2 : List (Nat × AV)} {St : List AV} {S : SS} : ev c 72 25 [l0, l1, l2, l3] L2 (aR (8, j, t) :: St) S = ev c 72 28 [l0, l1, l2, l3] L2 (S.2.2.1 (8, j, t) 0 :: St) S := ev_go i72_25 rfl
theorem i72_28 : insAt 72 28 = some (.getfield 95, 3, (6, 3, 1, 0), 191) := rfl
theorem s72_28 {c : Nat → List AV → SS → Option Out} {l0 l1 l2 l3 : Option AV} {j t : Nat} {L2 : List (Nat × AV)} {St : List AV} {S : SS} : ev c 72 28 [l0, l1, l2, l3] L2 (aR (6, j, t) :: St) S = ev c 72 31 [l0, l1, l2, l3] L2 (S.2.2.1 (6, j, t) 3 :: St) S := ev_go i72_28 rfl
theorem i72_31 : insAt 72 31 = some (.iload_n 3, 1, (0, 0, 0, 0), 0) := rfl
theorem s72_31 {c : Nat → List AV → SS → Option Out} {l0 l1 l2 : Option AV} {x : Int32} {L2 : List (Nat × AV)} {St : List AV} {S : SS} : ev c 72 31 [l0, l1, l2, some (aI x)] L2 St S = ev c 72 32 [l0, l1, l2, some (aI x)] L2 (aI x :: St) S := ev_go i72_31 rfl
theorem i72_32 : insAt 72 32 = some (.invokestatic 52, 3, (31, 2, 1, 0), 174) := rfl
theorem s72_32 {c : Nat → List AV → SS → Option Out} {l0 l1 l2 l3 : Option AV} {t0 : AV} {a0 : OId} {a1 : Int32} {L2 : List (Nat × AV)} {S : SS} : ev c 72 32 [l0, l1, l2, l3] L2 [aI a1, aR a0, t0] S = ck (c 31 [aR a0, aI a1] S) (fun v S' => ev c 72 35 [l0, l1, l2, l3] L2 (v.toList ++ [t0]) S') := ev_call i72_32 rfl
theorem i72_35 : insAt 72 35 = some (.iload_n 1, 1, (0, 0, 0, 0), 0) := rfl
theorem s72_35 {c : Nat → List AV → SS → Option Out} {l0 l2 l3 : Option AV} {x : Int32} {L2 : List (Nat × AV)} {St : List AV} {S : SS} : ev c 72 35 [l0, some (aI x), l2, l3] L2 St S = ev c 72 36 [l0, some (aI x), l2, l3] L2 (aI x :: St) S := ev_go i72_35 rfl
theorem i72_36 : insAt 72 36 = some (.invokestatic 108, 3, (74, 2, 1, 0), 195) := rfl
theorem s72_36 {c : Nat → List AV → SS → Option Out} {l0 l1 l2 l3 : Option AV} {t0 : AV} {a0 : Int32} {a1 : Int32} {L2 : List (Nat × AV)} {S : SS} : ev c 72 36 [l0, l1, l2, l3] L2 [aI a1, aI a0, t0] S = ck (c 74 [aI a0, aI a1] S) (fun v S' => ev c 72 39 [l0, l1, l2, l3] L2 (v.toList ++ [t0]) S') := ev_call i72_36 rfl
theorem i72_39 : insAt 72 39 = some (.goto 4, 3, (0, 0, 0, 0), 0) := rfl
theorem s72_39 {c : Nat → List AV → SS → Option Out} {l0 l1 l2 l3 : Option AV} {L2 : List (Nat × AV)} {St : List AV} {S : SS} : ev c 72 39 [l0, l1, l2, l3] L2 St S = ev c 72 43 [l0, l1, l2, l3] L2 St S := ev_go i72_39 rfl
theorem i72_42 : insAt 72 42 = some (.iconst 0, 1, (0, 0, 0, 0), 0) := rfl
theorem s72_42 {c : Nat → List AV → SS → Option Out} {l0 l1 l2 l3 : Option AV} {L2 : List (Nat × AV)} {St : List AV} {S : SS} : ev c 72 42 [l0, l1, l2, l3] L2 St S = ev c 72 43 [l0, l1, l2, l3] L2 (aI 0 :: St) S := ev_go i72_42 rfl
theorem i72_43 : insAt 72 43 = some (.iadd, 1, (0, 0, 0, 0), 0) := rfl
theorem s72_43 {c : Nat → List AV → SS → Option Out} {l0 l1 l2 l3 : Option AV} {x y : Int32} {L2 : List (Nat × AV)} {St : List AV} {S : SS} : ev c 72 43 [l0, l1, l2, l3] L2 (aI y :: aI x :: St) S = ev c 72 44 [l0, l1, l2, l3] L2 (aI (x + y) :: St) S := ev_go i72_43 rfl
theorem i72_44 : insAt 72 44 = some (.istore_n 2, 1, (0, 0, 0, 0), 0) := rfl
theorem s72_44 {c : Nat → List AV → SS → Option Out} {l0 l1 l2 l3 : Option AV} {x : Int32} {L2 : List (Nat × AV)} {St : List AV} {S : SS} : ev c 72 44 [l0, l1, l2, l3] L2 (aI x :: St) S = ev c 72 45 [l0, l1, some (aI x), l3] (kil L2 2) St S := ev_go i72_44 rfl
theorem i72_45 : insAt 72 45 = some (.iinc 3 1, 3, (0, 0, 0, 0), 0) := rfl
theorem s72_45 {c : Nat → List AV → SS → Option Out} {l0 l1 l2 : Option AV} {x : Int32} {L2 : List (Nat × AV)} {St : List AV} {S : SS} : ev c 72 45 [l0, l1, l2, some (aI x)] L2 St S = ev c 72 48 [l0, l1, l2, some (aI (x + 1))] (kil L2 3) St S := ev_go i72_45 rfl
theorem i72_48 : insAt 72 48 = some (.goto (-44), 3, (0, 0, 0, 0), 0) := rfl
theorem s72_48 {c : Nat → List AV → SS → Option Out} {l0 l1 l2 l3 : Option AV} {L2 : List (Nat × AV)} {St : List AV} {S : SS} : ev c 72 48 [l0, l1, l2, l3] L2 St S = ev c 72 4 [l0, l1, l2, l3] L2 St S := ev_go i72_48 rfl
theorem i72_51 : insAt 72 51 = some (.iload_n 2, 1, (0, 0, 0, 0), 0) := rfl
theorem s72_51 {c : Nat → List AV → SS → Option Out} {l0 l1 l3 : Option AV} {x : Int32} {L2 : List (Nat × AV)} {St : List AV} {S : SS} : ev c 72 51 [l0, l1, some (aI x), l3] L2 St S = ev c 72 52 [l0, l1, some (aI x), l3] L2 (aI x :: St) S := ev_go i72_51 rfl
theorem i72_52 : insAt 72 52 = some (.ireturn, 1, (0, 0, 0, 0), 0) := rfl
theorem s72_52 {c : Nat → List AV → SS → Option Out} {l0 l1 l2 l3 : Option AV} {x : Int32} {L2 : List (Nat × AV)} {S : SS} : ev c 72 52 [l0, l1, l2, l3] L2 [aI x] S = some (.inl (some (aI x)), S) := ev_end i72_52 rfl
theorem m72 {d : Nat} {o : OId} {a0 : Int32} {S : SS} : evm (d + 1) 72 [aR o, aI a0] S = ev (evm d) 72 0 [some (aR o), some (aI a0), none, none] [] [] S := evm_s (n := 4) rfl (Nat.le_of_ble_eq_true rfl) rfl rfl
/-! FrequencyOffice$Search.hears(I)Z -/
theorem i73_0 : insAt 73 0 = some (.iload_n 1, 1, (0, 0, 0, 0), 0) := rfl
theorem s73_0 {c : Nat → List AV → SS → Option Out} {l0 : Option AV} {x : Int32} {L2 : List (Nat × AV)} {St : List AV} {S : SS} : ev c 73 0 [l0, some (aI x)] L2 St S = ev c 73 1 [l0, some (aI x)] L2 (aI x :: St) S := ev_go i73_0 rfl
theorem i73_1 : insAt 73 1 = some (.ifCond .lt 25, 3, (0, 0, 0, 0), 0) := rfl
theorem s73_1 {c : Nat → List AV → SS → Option Out} {l0 l1 : Option AV} {x : Int32} {L2 : List (Nat × AV)} {St : List AV} {S : SS} : ev c 73 1 [l0, l1] L2 (aI x :: St) S = if x < 0 then ev c 73 26 [l0, l1] L2 St S else ev c 73 4 [l0, l1] L2 St S := ev_br i73_1 rfl
theorem i73_4 : insAt 73 4 = some (.iload_n 1, 1, (0, 0, 0, 0), 0) := rfl
theorem s73_4 {c : Nat → List AV → SS → Option Out} {l0 : Option AV} {x : Int32} {L2 : List (Nat × AV)} {St : List AV} {S : SS} : ev c 73 4 [l0, some (aI x)] L2 St S = ev c 73 5 [l0, some (aI x)] L2 (aI x :: St) S := ev_go i73_4 rfl
theorem i73_5 : insAt 73 5 = some (.aload_n 0, 1, (0, 0, 0, 0), 0) := rfl
theorem s73_5 {c : Nat → List AV → SS → Option Out} {l1 : Option AV} {o : OId} {L2 : List (Nat × AV)} {St : List AV} {S : SS} : ev c 73 5 [some (aR o), l1] L2 St S = ev c 73 6 [some (aR o), l1] L2 (aR o :: St) S := ev_go i73_5 rfl
theorem i73_6 : insAt 73 6 = some (.getfield 22, 3, (8, 3, 0, 0), 61) := rfl
theorem s73_6 {c : Nat → List AV → SS → Option Out} {l0 l1 : Option AV} {j t : Nat} {L2 : List (Nat × AV)} {St : List AV} {S : SS} : ev c 73 6 [l0, l1] L2 (aR (8, j, t) :: St) S = ev c 73 9 [l0, l1] L2 (S.2.2.1 (8, j, t) 3 :: St) S := ev_go i73_6 rfl
theorem i73_9 : insAt 73 9 = some (.arraylength, 1, (0, 0, 0, 0), 0) := rfl
theorem s73_9 {c : Nat → List AV → SS → Option Out} {l0 l1 : Option AV} {o : OId} {L2 : List (Nat × AV)} {St : List AV} {S : SS} : ev c 73 9 [l0, l1] L2 (aR o :: St) S = kN o (fun x => ev c 73 10 [l0, l1] L2 (aI x :: St) S) := ev_alen i73_9
theorem i73_10 : insAt 73 10 = some (.if_icmp .ge 16, 3, (0, 0, 0, 0), 0) := rfl
theorem s73_10 {c : Nat → List AV → SS → Option Out} {l0 l1 : Option AV} {x y : Int32} {L2 : List (Nat × AV)} {St : List AV} {S : SS} : ev c 73 10 [l0, l1] L2 (aI y :: aI x :: St) S = if y ≤ x then ev c 73 26 [l0, l1] L2 St S else ev c 73 13 [l0, l1] L2 St S := ev_br i73_10 rfl
theorem i73_13 : insAt 73 13 = some (.aload_n 0, 1, (0, 0, 0, 0), 0) := rfl
theorem s73_13 {c : Nat → List AV → SS → Option Out} {l1 : Option AV} {o : OId} {L2 : List (Nat × AV)} {St : List AV} {S : SS} : ev c 73 13 [some (aR o), l1] L2 St S = ev c 73 14 [some (aR o), l1] L2 (aR o :: St) S := ev_go i73_13 rfl
theorem i73_14 : insAt 73 14 = some (.getfield 22, 3, (8, 3, 0, 0), 61) := rfl
theorem s73_14 {c : Nat → List AV → SS → Option Out} {l0 l1 : Option AV} {j t : Nat} {L2 : List (Nat × AV)} {St : List AV} {S : SS} : ev c 73 14 [l0, l1] L2 (aR (8, j, t) :: St) S = ev c 73 17 [l0, l1] L2 (S.2.2.1 (8, j, t) 3 :: St) S := ev_go i73_14 rfl
theorem i73_17 : insAt 73 17 = some (.iload_n 1, 1, (0, 0, 0, 0), 0) := rfl
theorem s73_17 {c : Nat → List AV → SS → Option Out} {l0 : Option AV} {x : Int32} {L2 : List (Nat × AV)} {St : List AV} {S : SS} : ev c 73 17 [l0, some (aI x)] L2 St S = ev c 73 18 [l0, some (aI x)] L2 (aI x :: St) S := ev_go i73_17 rfl
theorem i73_18 : insAt 73 18 = some (.baload, 1, (0, 0, 0, 0), 0) := rfl
theorem s73_18 {c : Nat → List AV → SS → Option Out} {l0 l1 : Option AV} {i : Int32} {o : OId} {L2 : List (Nat × AV)} {St : List AV} {S : SS} : ev c 73 18 [l0, l1] L2 (aI i :: aR o :: St) S = kB o i (ev c 73 19 [l0, l1] L2 (aI (agB S o i.toNatClampNeg) :: St) S) (ev c 73 19 [l0, l1] L2 (aI (bb (S.1 o i.toNatClampNeg)) :: St) S) := ev_baload i73_18
theorem i73_19 : insAt 73 19 = some (.ifCond .eq 7, 3, (0, 0, 0, 0), 0) := rfl
theorem s73_19 {c : Nat → List AV → SS → Option Out} {l0 l1 : Option AV} {x : Int32} {L2 : List (Nat × AV)} {St : List AV} {S : SS} : ev c 73 19 [l0, l1] L2 (aI x :: St) S = if x = 0 then ev c 73 26 [l0, l1] L2 St S else ev c 73 22 [l0, l1] L2 St S := ev_br i73_19 rfl
theorem i73_22 : insAt 73 22 = some (.iconst 1, 1, (0, 0, 0, 0), 0) := rfl
theorem s73_22 {c : Nat → List AV → SS → Option Out} {l0 l1 : Option AV} {L2 : List (Nat × AV)} {St : List AV} {S : SS} : ev c 73 22 [l0, l1] L2 St S = ev c 73 23 [l0, l1] L2 (aI 1 :: St) S := ev_go i73_22 rfl
theorem i73_23 : insAt 73 23 = some (.goto 4, 3, (0, 0, 0, 0), 0) := rfl
theorem s73_23 {c : Nat → List AV → SS → Option Out} {l0 l1 : Option AV} {L2 : List (Nat × AV)} {St : List AV} {S : SS} : ev c 73 23 [l0, l1] L2 St S = ev c 73 27 [l0, l1] L2 St S := ev_go i73_23 rfl
theorem i73_26 : insAt 73 26 = some (.iconst 0, 1, (0, 0, 0, 0), 0) := rfl
theorem s73_26 {c : Nat → List AV → SS → Option Out} {l0 l1 : Option AV} {L2 : List (Nat × AV)} {St : List AV} {S : SS} : ev c 73 26 [l0, l1] L2 St S = ev c 73 27 [l0, l1] L2 (aI 0 :: St) S := ev_go i73_26 rfl
theorem i73_27 : insAt 73 27 = some (.ireturn, 1, (0, 0, 0, 0), 0) := rfl
theorem s73_27 {c : Nat → List AV → SS → Option Out} {l0 l1 : Option AV} {x : Int32} {L2 : List (Nat × AV)} {S : SS} : ev c 73 27 [l0, l1] L2 [aI x] S = if x = 0 ∨ x = 1 then some (.inl (some (aI x)), S) else none := ev_rt i73_27 rfl
theorem m73 {d : Nat} {o : OId} {a0 : Int32} {S : SS} : evm (d + 1) 73 [aR o, aI a0] S = ev (evm d) 73 0 [some (aR o), some (aI a0)] [] [] S := evm_s (n := 2) rfl (Nat.le_of_ble_eq_true rfl) rfl rfl
/-! FrequencyOffice$Search.tryMovesOf(LFrequencyOffice$Search;II)Z -/
theorem i75_0 : insAt 75 0 = some (.aload_n 0, 1, (0, 0, 0, 0), 0) := rfl
theorem s75_0 {c : Nat → List AV → SS → Option Out} {l1 l2 l3 l4 l5 l6 l7 : Option AV} {o : OId} {L2 : List (Nat × AV)} {St : List AV} {S : SS} : ev c 75 0 [some (aR o), l1, l2, l3, l4, l5, l6, l7] L2 St S = ev c 75 1 [some (aR o), l1, l2, l3, l4, l5, l6, l7] L2 (aR o :: St) S := ev_go i75_0 rfl
theorem i75_1 : insAt 75 1 = some (.getfield 36, 3, (8, 0, 0, 0), 65) := rfl
theorem s75_1 {c : Nat → List AV → SS → Option Out} {l0 l1 l2 l3 l4 l5 l6 l7 : Option AV} {j t : Nat} {L2 : List (Nat × AV)} {St : List AV} {S : SS} : ev c 75 1 [l0, l1, l2, l3, l4, l5, l6, l7] L2 (aR (8, j, t) :: St) S = ev c 75 4 [l0, l1, l2, l3, l4, l5, l6, l7] L2 (S.2.2.1 (8, j, t) 0 :: St) S := ev_go i75_1 rfl
theorem i75_4 : insAt 75 4 = some (.getfield 95, 3, (6, 3, 1, 0), 191) := rfl
theorem s75_4 {c : Nat → List AV → SS → Option Out} {l0 l1 l2 l3 l4 l5 l6 l7 : Option AV} {j t : Nat} {L2 : List (Nat × AV)} {St : List AV} {S : SS} : ev c 75 4 [l0, l1, l2, l3, l4, l5, l6, l7] L2 (aR (6, j, t) :: St) S = ev c 75 7 [l0, l1, l2, l3, l4, l5, l6, l7] L2 (S.2.2.1 (6, j, t) 3 :: St) S := ev_go i75_4 rfl
theorem i75_7 : insAt 75 7 = some (.astore_n 3, 1, (0, 0, 0, 0), 0) := rfl
theorem s75_7 {c : Nat → List AV → SS → Option Out} {l0 l1 l2 l3 l4 l5 l6 l7 : Option AV} {o : OId} {L2 : List (Nat × AV)} {St : List AV} {S : SS} : ev c 75 7 [l0, l1, l2, l3, l4, l5, l6, l7] L2 (aR o :: St) S = ev c 75 8 [l0, l1, l2, some (aR o), l4, l5, l6, l7] (kil L2 3) St S := ev_go i75_7 rfl
theorem i75_8 : insAt 75 8 = some (.aload_n 3, 1, (0, 0, 0, 0), 0) := rfl
theorem s75_8 {c : Nat → List AV → SS → Option Out} {l0 l1 l2 l4 l5 l6 l7 : Option AV} {o : OId} {L2 : List (Nat × AV)} {St : List AV} {S : SS} : ev c 75 8 [l0, l1, l2, some (aR o), l4, l5, l6, l7] L2 St S = ev c 75 9 [l0, l1, l2, some (aR o), l4, l5, l6, l7] L2 (aR o :: St) S := ev_go i75_8 rfl
theorem i75_9 : insAt 75 9 = some (.iload_n 1, 1, (0, 0, 0, 0), 0) := rfl
theorem s75_9 {c : Nat → List AV → SS → Option Out} {l0 l2 l3 l4 l5 l6 l7 : Option AV} {x : Int32} {L2 : List (Nat × AV)} {St : List AV} {S : SS} : ev c 75 9 [l0, some (aI x), l2, l3, l4, l5, l6, l7] L2 St S = ev c 75 10 [l0, some (aI x), l2, l3, l4, l5, l6, l7] L2 (aI x :: St) S := ev_go i75_9 rfl
theorem i75_10 : insAt 75 10 = some (.invokestatic 52, 3, (31, 2, 1, 0), 174) := rfl
theorem s75_10 {c : Nat → List AV → SS → Option Out} {l0 l1 l2 l3 l4 l5 l6 l7 : Option AV} {a0 : OId} {a1 : Int32} {L2 : List (Nat × AV)} {S : SS} : ev c 75 10 [l0, l1, l2, l3, l4, l5, l6, l7] L2 [aI a1, aR a0] S = ck (c 31 [aR a0, aI a1] S) (fun v S' => ev c 75 13 [l0, l1, l2, l3, l4, l5, l6, l7] L2 (v.toList ++ []) S') := ev_call i75_10 rfl
theorem i75_13 : insAt 75 13 = some (.istore 4, 2, (0, 0, 0, 0), 0) := rfl
theorem s75_13 {c : Nat → List AV → SS → Option Out} {l0 l1 l2 l3 l4 l5 l6 l7 : Option AV} {x : Int32} {L2 : List (Nat × AV)} {St : List AV} {S : SS} : ev c 75 13 [l0, l1, l2, l3, l4, l5, l6, l7] L2 (aI x :: St) S = ev c 75 15 [l0, l1, l2, l3, some (aI x), l5, l6, l7] (kil L2 4) St S := ev_go i75_13 rfl
theorem i75_15 : insAt 75 15 = some (.aload_n 0, 1, (0, 0, 0, 0), 0) := rfl
theorem s75_15 {c : Nat → List AV → SS → Option Out} {l1 l2 l3 l4 l5 l6 l7 : Option AV} {o : OId} {L2 : List (Nat × AV)} {St : List AV} {S : SS} : ev c 75 15 [some (aR o), l1, l2, l3, l4, l5, l6, l7] L2 St S = ev c 75 16 [some (aR o), l1, l2, l3, l4, l5, l6, l7] L2 (aR o :: St) S := ev_go i75_15 rfl
theorem i75_16 : insAt 75 16 = some (.getfield 36, 3, (8, 0, 0, 0), 65) := rfl
theorem s75_16 {c : Nat → List AV → SS → Option Out} {l0 l1 l2 l3 l4 l5 l6 l7 : Option AV} {j t : Nat} {L2 : List (Nat × AV)} {St : List AV} {S : SS} : ev c 75 16 [l0, l1, l2, l3, l4, l5, l6, l7] L2 (aR (8, j, t) :: St) S = ev c 75 19 [l0, l1, l2, l3, l4, l5, l6, l7] L2 (S.2.2.1 (8, j, t) 0 :: St) S := ev_go i75_16 rfl
theorem i75_19 : insAt 75 19 = some (.iload_n 1, 1, (0, 0, 0, 0), 0) := rfl
theorem s75_19 {c : Nat → List AV → SS → Option Out} {l0 l2 l3 l4 l5 l6 l7 : Option AV} {x : Int32} {L2 : List (Nat × AV)} {St : List AV} {S : SS} : ev c 75 19 [l0, some (aI x), l2, l3, l4, l5, l6, l7] L2 St S = ev c 75 20 [l0, some (aI x), l2, l3, l4, l5, l6, l7] L2 (aI x :: St) S := ev_go i75_19 rfl
theorem i75_20 : insAt 75 20 = some (.invokevirtual 126, 3, (76, 1, 3, 6), 197) := rfl
theorem s75_20 {c : Nat → List AV → SS → Option Out} {l0 l1 l2 l3 l4 l5 l6 l7 : Option AV} {a0 : Int32} {j t : Nat} {L2 : List (Nat × AV)} {S : SS} : ev c 75 20 [l0, l1, l2, l3, l4, l5, l6, l7] L2 [aI a0, aR (6, j, t)] S = ck (c 76 [aR (6, j, t), aI a0] S) (fun v S' => ev c 75 23 [l0, l1, l2, l3, l4, l5, l6, l7] L2 (v.toList ++ []) S') := ev_call i75_20 rfl
theorem i75_23 : insAt 75 23 = some (.iconst 1, 1, (0, 0, 0, 0), 0) := rfl
theorem s75_23 {c : Nat → List AV → SS → Option Out} {l0 l1 l2 l3 l4 l5 l6 l7 : Option AV} {L2 : List (Nat × AV)} {St : List AV} {S : SS} : ev c 75 23 [l0, l1, l2, l3, l4, l5, l6, l7] L2 St S = ev c 75 24 [l0, l1, l2, l3, l4, l5, l6, l7] L2 (aI 1 :: St) S := ev_go i75_23 rfl
theorem i75_24 : insAt 75 24 = some (.iload 4, 2, (0, 0, 0, 0), 0) := rfl
theorem s75_24 {c : Nat → List AV → SS → Option Out} {l0 l1 l2 l3 l5 l6 l7 : Option AV} {x : Int32} {L2 : List (Nat × AV)} {St : List AV} {S : SS} : ev c 75 24 [l0, l1, l2, l3, some (aI x), l5, l6, l7] L2 St S = ev c 75 26 [l0, l1, l2, l3, some (aI x), l5, l6, l7] L2 (aI x :: St) S := ev_go i75_24 rfl
theorem i75_26 : insAt 75 26 = some (.ishl, 1, (0, 0, 0, 0), 0) := rfl
theorem s75_26 {c : Nat → List AV → SS → Option Out} {l0 l1 l2 l3 l4 l5 l6 l7 : Option AV} {x y : Int32} {L2 : List (Nat × AV)} {St : List AV} {S : SS} : ev c 75 26 [l0, l1, l2, l3, l4, l5, l6, l7] L2 (aI y :: aI x :: St) S = ev c 75 27 [l0, l1, l2, l3, l4, l5, l6, l7] L2 (aI (x <<< (y &&& 31)) :: St) S := ev_go i75_26 rfl
theorem i75_27 : insAt 75 27 = some (.iconst (-1), 1, (0, 0, 0, 0), 0) := rfl
theorem s75_27 {c : Nat → List AV → SS → Option Out} {l0 l1 l2 l3 l4 l5 l6 l7 : Option AV} {L2 : List (Nat × AV)} {St : List AV} {S : SS} : ev c 75 27 [l0, l1, l2, l3, l4, l5, l6, l7] L2 St S = ev c 75 28 [l0, l1, l2, l3, l4, l5, l6, l7] L2 (aI (-1) :: St) S := ev_go i75_27 rfl
theorem i75_28 : insAt 75 28 = some (.ixor, 1, (0, 0, 0, 0), 0) := rfl
theorem s75_28 {c : Nat → List AV → SS → Option Out} {l0 l1 l2 l3 l4 l5 l6 l7 : Option AV} {x y : Int32} {L2 : List (Nat × AV)} {St : List AV} {S : SS} : ev c 75 28 [l0, l1, l2, l3, l4, l5, l6, l7] L2 (aI y :: aI x :: St) S = ev c 75 29 [l0, l1, l2, l3, l4, l5, l6, l7] L2 (aI (x ^^^ y) :: St) S := ev_go i75_28 rfl
theorem i75_29 : insAt 75 29 = some (.iand, 1, (0, 0, 0, 0), 0) := rfl
theorem s75_29 {c : Nat → List AV → SS → Option Out} {l0 l1 l2 l3 l4 l5 l6 l7 : Option AV} {x y : Int32} {L2 : List (Nat × AV)} {St : List AV} {S : SS} : ev c 75 29 [l0, l1, l2, l3, l4, l5, l6, l7] L2 (aI y :: aI x :: St) S = ev c 75 30 [l0, l1, l2, l3, l4, l5, l6, l7] L2 (aI (x &&& y) :: St) S := ev_go i75_29 rfl
theorem i75_30 : insAt 75 30 = some (.istore 5, 2, (0, 0, 0, 0), 0) := rfl
theorem s75_30 {c : Nat → List AV → SS → Option Out} {l0 l1 l2 l3 l4 l5 l6 l7 : Option AV} {x : Int32} {L2 : List (Nat × AV)} {St : List AV} {S : SS} : ev c 75 30 [l0, l1, l2, l3, l4, l5, l6, l7] L2 (aI x :: St) S = ev c 75 32 [l0, l1, l2, l3, l4, some (aI x), l6, l7] (kil L2 5) St S := ev_go i75_30 rfl
theorem i75_32 : insAt 75 32 = some (.iconst 0, 1, (0, 0, 0, 0), 0) := rfl
theorem s75_32 {c : Nat → List AV → SS → Option Out} {l0 l1 l2 l3 l4 l5 l6 l7 : Option AV} {L2 : List (Nat × AV)} {St : List AV} {S : SS} : ev c 75 32 [l0, l1, l2, l3, l4, l5, l6, l7] L2 St S = ev c 75 33 [l0, l1, l2, l3, l4, l5, l6, l7] L2 (aI 0 :: St) S := ev_go i75_32 rfl
theorem i75_33 : insAt 75 33 = some (.istore 6, 2, (0, 0, 0, 0), 0) := rfl
theorem s75_33 {c : Nat → List AV → SS → Option Out} {l0 l1 l2 l3 l4 l5 l6 l7 : Option AV} {x : Int32} {L2 : List (Nat × AV)} {St : List AV} {S : SS} : ev c 75 33 [l0, l1, l2, l3, l4, l5, l6, l7] L2 (aI x :: St) S = ev c 75 35 [l0, l1, l2, l3, l4, l5, some (aI x), l7] (kil L2 6) St S := ev_go i75_33 rfl
theorem i75_35 : insAt 75 35 = some (.iconst 0, 1, (0, 0, 0, 0), 0) := rfl
theorem s75_35 {c : Nat → List AV → SS → Option Out} {l0 l1 l2 l3 l4 l5 l6 l7 : Option AV} {L2 : List (Nat × AV)} {St : List AV} {S : SS} : ev c 75 35 [l0, l1, l2, l3, l4, l5, l6, l7] L2 St S = ev c 75 36 [l0, l1, l2, l3, l4, l5, l6, l7] L2 (aI 0 :: St) S := ev_go i75_35 rfl
theorem i75_36 : insAt 75 36 = some (.istore 7, 2, (0, 0, 0, 0), 0) := rfl
theorem s75_36 {c : Nat → List AV → SS → Option Out} {l0 l1 l2 l3 l4 l5 l6 l7 : Option AV} {x : Int32} {L2 : List (Nat × AV)} {St : List AV} {S : SS} : ev c 75 36 [l0, l1, l2, l3, l4, l5, l6, l7] L2 (aI x :: St) S = ev c 75 38 [l0, l1, l2, l3, l4, l5, l6, some (aI x)] (kil L2 7) St S := ev_go i75_36 rfl
theorem i75_38 : insAt 75 38 = some (.iload 7, 2, (0, 0, 0, 0), 0) := rfl
theorem s75_38 {c : Nat → List AV → SS → Option Out} {l0 l1 l2 l3 l4 l5 l6 : Option AV} {x : Int32} {L2 : List (Nat × AV)} {St : List AV} {S : SS} : ev c 75 38 [l0, l1, l2, l3, l4, l5, l6, some (aI x)] L2 St S = ev c 75 40 [l0, l1, l2, l3, l4, l5, l6, some (aI x)] L2 (aI x :: St) S := ev_go i75_38 rfl
theorem i75_40 : insAt 75 40 = some (.bipush 8, 2, (0, 0, 0, 0), 0) := rfl
theorem s75_40 {c : Nat → List AV → SS → Option Out} {l0 l1 l2 l3 l4 l5 l6 l7 : Option AV} {L2 : List (Nat × AV)} {St : List AV} {S : SS} : ev c 75 40 [l0, l1, l2, l3, l4, l5, l6, l7] L2 St S = ev c 75 42 [l0, l1, l2, l3, l4, l5, l6, l7] L2 (aI 8 :: St) S := ev_go i75_40 rfl
theorem i75_42 : insAt 75 42 = some (.if_icmp .ge 64, 3, (0, 0, 0, 0), 0) := rfl
theorem s75_42 {c : Nat → List AV → SS → Option Out} {l0 l1 l2 l3 l4 l5 l6 l7 : Option AV} {x y : Int32} {L2 : List (Nat × AV)} {St : List AV} {S : SS} : ev c 75 42 [l0, l1, l2, l3, l4, l5, l6, l7] L2 (aI y :: aI x :: St) S = if y ≤ x then ev c 75 106 [l0, l1, l2, l3, l4, l5, l6, l7] L2 St S else ev c 75 45 [l0, l1, l2, l3, l4, l5, l6, l7] L2 St S := ev_br i75_42 rfl
theorem i75_45 : insAt 75 45 = some (.iload 6, 2, (0, 0, 0, 0), 0) := rfl
theorem s75_45 {c : Nat → List AV → SS → Option Out} {l0 l1 l2 l3 l4 l5 l7 : Option AV} {x : Int32} {L2 : List (Nat × AV)} {St : List AV} {S : SS} : ev c 75 45 [l0, l1, l2, l3, l4, l5, some (aI x), l7] L2 St S = ev c 75 47 [l0, l1, l2, l3, l4, l5, some (aI x), l7] L2 (aI x :: St) S := ev_go i75_45 rfl
theorem i75_47 : insAt 75 47 = some (.ifCond .ne 59, 3, (0, 0, 0, 0), 0) := rfl
theorem s75_47 {c : Nat → List AV → SS → Option Out} {l0 l1 l2 l3 l4 l5 l6 l7 : Option AV} {x : Int32} {L2 : List (Nat × AV)} {St : List AV} {S : SS} : ev c 75 47 [l0, l1, l2, l3, l4, l5, l6, l7] L2 (aI x :: St) S = if x = 0 then ev c 75 50 [l0, l1, l2, l3, l4, l5, l6, l7] L2 St S else ev c 75 106 [l0, l1, l2, l3, l4, l5, l6, l7] L2 St S := (ev_br i75_47 rfl).trans (ite_not _ _ _)
theorem i75_50 : insAt 75 50 = some (.iload 5, 2, (0, 0, 0, 0), 0) := rfl
theorem s75_50 {c : Nat → List AV → SS → Option Out} {l0 l1 l2 l3 l4 l6 l7 : Option AV} {x : Int32} {L2 : List (Nat × AV)} {St : List AV} {S : SS} : ev c 75 50 [l0, l1, l2, l3, l4, some (aI x), l6, l7] L2 St S = ev c 75 52 [l0, l1, l2, l3, l4, some (aI x), l6, l7] L2 (aI x :: St) S := ev_go i75_50 rfl
theorem i75_52 : insAt 75 52 = some (.i2l, 1, (0, 0, 0, 0), 0) := rfl
theorem s75_52 {c : Nat → List AV → SS → Option Out} {l0 l1 l2 l3 l4 l5 l6 l7 : Option AV} {x : Int32} {L2 : List (Nat × AV)} {St : List AV} {S : SS} : ev c 75 52 [l0, l1, l2, l3, l4, l5, l6, l7] L2 (aI x :: St) S = ev c 75 53 [l0, l1, l2, l3, l4, l5, l6, l7] L2 (aL x.toInt64 :: St) S := ev_go i75_52 rfl
theorem i75_53 : insAt 75 53 = some (.iload 7, 2, (0, 0, 0, 0), 0) := rfl
theorem s75_53 {c : Nat → List AV → SS → Option Out} {l0 l1 l2 l3 l4 l5 l6 : Option AV} {x : Int32} {L2 : List (Nat × AV)} {St : List AV} {S : SS} : ev c 75 53 [l0, l1, l2, l3, l4, l5, l6, some (aI x)] L2 St S = ev c 75 55 [l0, l1, l2, l3, l4, l5, l6, some (aI x)] L2 (aI x :: St) S := ev_go i75_53 rfl
theorem i75_55 : insAt 75 55 = some (.invokestatic 129, 3, (42, 2, 1, 0), 189) := rfl
theorem s75_55 {c : Nat → List AV → SS → Option Out} {l0 l1 l2 l3 l4 l5 l6 l7 : Option AV} {a0 : Int64} {a1 : Int32} {L2 : List (Nat × AV)} {S : SS} : ev c 75 55 [l0, l1, l2, l3, l4, l5, l6, l7] L2 [aI a1, aL a0] S = ck (c 42 [aL a0, aI a1] S) (fun v S' => ev c 75 58 [l0, l1, l2, l3, l4, l5, l6, l7] L2 (v.toList ++ []) S') := ev_call i75_55 rfl
theorem i75_58 : insAt 75 58 = some (.ifCond .eq 42, 3, (0, 0, 0, 0), 0) := rfl
theorem s75_58 {c : Nat → List AV → SS → Option Out} {l0 l1 l2 l3 l4 l5 l6 l7 : Option AV} {x : Int32} {L2 : List (Nat × AV)} {St : List AV} {S : SS} : ev c 75 58 [l0, l1, l2, l3, l4, l5, l6, l7] L2 (aI x :: St) S = if x = 0 then ev c 75 100 [l0, l1, l2, l3, l4, l5, l6, l7] L2 St S else ev c 75 61 [l0, l1, l2, l3, l4, l5, l6, l7] L2 St S := ev_br i75_58 rfl
theorem i75_61 : insAt 75 61 = some (.aload_n 0, 1, (0, 0, 0, 0), 0) := rfl
theorem s75_61 {c : Nat → List AV → SS → Option Out} {l1 l2 l3 l4 l5 l6 l7 : Option AV} {o : OId} {L2 : List (Nat × AV)} {St : List AV} {S : SS} : ev c 75 61 [some (aR o), l1, l2, l3, l4, l5, l6, l7] L2 St S = ev c 75 62 [some (aR o), l1, l2, l3, l4, l5, l6, l7] L2 (aR o :: St) S := ev_go i75_61 rfl
theorem i75_62 : insAt 75 62 = some (.getfield 12, 3, (8, 1, 0, 0), 59) := rfl
theorem s75_62 {c : Nat → List AV → SS → Option Out} {l0 l1 l2 l3 l4 l5 l6 l7 : Option AV} {j t : Nat} {L2 : List (Nat × AV)} {St : List AV} {S : SS} : ev c 75 62 [l0, l1, l2, l3, l4, l5, l6, l7] L2 (aR (8, j, t) :: St) S = ev c 75 65 [l0, l1, l2, l3, l4, l5, l6, l7] L2 (S.2.2.1 (8, j, t) 1 :: St) S := ev_go i75_62 rfl
theorem i75_65 : insAt 75 65 = some (.iload_n 2, 1, (0, 0, 0, 0), 0) := rfl
theorem s75_65 {c : Nat → List AV → SS → Option Out} {l0 l1 l3 l4 l5 l6 l7 : Option AV} {x : Int32} {L2 : List (Nat × AV)} {St : List AV} {S : SS} : ev c 75 65 [l0, l1, some (aI x), l3, l4, l5, l6, l7] L2 St S = ev c 75 66 [l0, l1, some (aI x), l3, l4, l5, l6, l7] L2 (aI x :: St) S := ev_go i75_65 rfl
theorem i75_66 : insAt 75 66 = some (.aload_n 0, 1, (0, 0, 0, 0), 0) := rfl
theorem s75_66 {c : Nat → List AV → SS → Option Out} {l1 l2 l3 l4 l5 l6 l7 : Option AV} {o : OId} {L2 : List (Nat × AV)} {St : List AV} {S : SS} : ev c 75 66 [some (aR o), l1, l2, l3, l4, l5, l6, l7] L2 St S = ev c 75 67 [some (aR o), l1, l2, l3, l4, l5, l6, l7] L2 (aR o :: St) S := ev_go i75_66 rfl
theorem i75_67 : insAt 75 67 = some (.getfield 36, 3, (8, 0, 0, 0), 65) := rfl
theorem s75_67 {c : Nat → List AV → SS → Option Out} {l0 l1 l2 l3 l4 l5 l6 l7 : Option AV} {j t : Nat} {L2 : List (Nat × AV)} {St : List AV} {S : SS} : ev c 75 67 [l0, l1, l2, l3, l4, l5, l6, l7] L2 (aR (8, j, t) :: St) S = ev c 75 70 [l0, l1, l2, l3, l4, l5, l6, l7] L2 (S.2.2.1 (8, j, t) 0 :: St) S := ev_go i75_67 rfl
theorem i75_70 : insAt 75 70 = some (.getfield 82, 3, (6, 2, 1, 0), 198) := rfl
theorem s75_70 {c : Nat → List AV → SS → Option Out} {l0 l1 l2 l3 l4 l5 l6 l7 : Option AV} {j t : Nat} {L2 : List (Nat × AV)} {St : List AV} {S : SS} : ev c 75 70 [l0, l1, l2, l3, l4, l5, l6, l7] L2 (aR (6, j, t) :: St) S = ev c 75 73 [l0, l1, l2, l3, l4, l5, l6, l7] L2 (S.2.2.1 (6, j, t) 2 :: St) S := ev_go i75_70 rfl
theorem i75_73 : insAt 75 73 = some (.iload_n 1, 1, (0, 0, 0, 0), 0) := rfl
theorem s75_73 {c : Nat → List AV → SS → Option Out} {l0 l2 l3 l4 l5 l6 l7 : Option AV} {x : Int32} {L2 : List (Nat × AV)} {St : List AV} {S : SS} : ev c 75 73 [l0, some (aI x), l2, l3, l4, l5, l6, l7] L2 St S = ev c 75 74 [l0, some (aI x), l2, l3, l4, l5, l6, l7] L2 (aI x :: St) S := ev_go i75_73 rfl
theorem i75_74 : insAt 75 74 = some (.invokestatic 52, 3, (31, 2, 1, 0), 174) := rfl
theorem s75_74 {c : Nat → List AV → SS → Option Out} {l0 l1 l2 l3 l4 l5 l6 l7 : Option AV} {t0 t1 : AV} {a0 : OId} {a1 : Int32} {L2 : List (Nat × AV)} {S : SS} : ev c 75 74 [l0, l1, l2, l3, l4, l5, l6, l7] L2 [aI a1, aR a0, t0, t1] S = ck (c 31 [aR a0, aI a1] S) (fun v S' => ev c 75 77 [l0, l1, l2, l3, l4, l5, l6, l7] L2 (v.toList ++ [t0, t1]) S') := ev_call i75_74 rfl
theorem i75_77 : insAt 75 77 = some (.iload 4, 2, (0, 0, 0, 0), 0) := rfl
theorem s75_77 {c : Nat → List AV → SS → Option Out} {l0 l1 l2 l3 l5 l6 l7 : Option AV} {x : Int32} {L2 : List (Nat × AV)} {St : List AV} {S : SS} : ev c 75 77 [l0, l1, l2, l3, some (aI x), l5, l6, l7] L2 St S = ev c 75 79 [l0, l1, l2, l3, some (aI x), l5, l6, l7] L2 (aI x :: St) S := ev_go i75_77 rfl
theorem i75_79 : insAt 75 79 = some (.iload 7, 2, (0, 0, 0, 0), 0) := rfl
theorem s75_79 {c : Nat → List AV → SS → Option Out} {l0 l1 l2 l3 l4 l5 l6 : Option AV} {x : Int32} {L2 : List (Nat × AV)} {St : List AV} {S : SS} : ev c 75 79 [l0, l1, l2, l3, l4, l5, l6, some (aI x)] L2 St S = ev c 75 81 [l0, l1, l2, l3, l4, l5, l6, some (aI x)] L2 (aI x :: St) S := ev_go i75_79 rfl
theorem i75_81 : insAt 75 81 = some (.invokevirtual 133, 3, (77, 4, 3, 7), 199) := rfl
theorem s75_81 {c : Nat → List AV → SS → Option Out} {l0 l1 l2 l3 l4 l5 l6 l7 : Option AV} {a0 : Int32} {a1 : Int32} {a2 : Int32} {a3 : Int32} {j t : Nat} {L2 : List (Nat × AV)} {S : SS} : ev c 75 81 [l0, l1, l2, l3, l4, l5, l6, l7] L2 [aI a3, aI a2, aI a1, aI a0, aR (7, j, t)] S = ck (c 77 [aR (7, j, t), aI a0, aI a1, aI a2, aI a3] S) (fun v S' => ev c 75 84 [l0, l1, l2, l3, l4, l5, l6, l7] L2 (v.toList ++ []) S') := ev_call i75_81 rfl
theorem i75_84 : insAt 75 84 = some (.aload_n 3, 1, (0, 0, 0, 0), 0) := rfl
theorem s75_84 {c : Nat → List AV → SS → Option Out} {l0 l1 l2 l4 l5 l6 l7 : Option AV} {o : OId} {L2 : List (Nat × AV)} {St : List AV} {S : SS} : ev c 75 84 [l0, l1, l2, some (aR o), l4, l5, l6, l7] L2 St S = ev c 75 85 [l0, l1, l2, some (aR o), l4, l5, l6, l7] L2 (aR o :: St) S := ev_go i75_84 rfl
theorem i75_85 : insAt 75 85 = some (.iload_n 1, 1, (0, 0, 0, 0), 0) := rfl
theorem s75_85 {c : Nat → List AV → SS → Option Out} {l0 l2 l3 l4 l5 l6 l7 : Option AV} {x : Int32} {L2 : List (Nat × AV)} {St : List AV} {S : SS} : ev c 75 85 [l0, some (aI x), l2, l3, l4, l5, l6, l7] L2 St S = ev c 75 86 [l0, some (aI x), l2, l3, l4, l5, l6, l7] L2 (aI x :: St) S := ev_go i75_85 rfl
theorem i75_86 : insAt 75 86 = some (.iload 7, 2, (0, 0, 0, 0), 0) := rfl
theorem s75_86 {c : Nat → List AV → SS → Option Out} {l0 l1 l2 l3 l4 l5 l6 : Option AV} {x : Int32} {L2 : List (Nat × AV)} {St : List AV} {S : SS} : ev c 75 86 [l0, l1, l2, l3, l4, l5, l6, some (aI x)] L2 St S = ev c 75 88 [l0, l1, l2, l3, l4, l5, l6, some (aI x)] L2 (aI x :: St) S := ev_go i75_86 rfl
theorem i75_88 : insAt 75 88 = some (.invokestatic 85, 3, (35, 3, 1, 0), 180) := rfl
theorem s75_88 {c : Nat → List AV → SS → Option Out} {l0 l1 l2 l3 l4 l5 l6 l7 : Option AV} {a0 : OId} {a1 : Int32} {a2 : Int32} {L2 : List (Nat × AV)} {S : SS} : ev c 75 88 [l0, l1, l2, l3, l4, l5, l6, l7] L2 [aI a2, aI a1, aR a0] S = ck (c 35 [aR a0, aI a1, aI a2] S) (fun v S' => ev c 75 91 [l0, l1, l2, l3, l4, l5, l6, l7] L2 (v.toList ++ []) S') := ev_call i75_88 rfl
theorem i75_91 : insAt 75 91 = some (.aload_n 0, 1, (0, 0, 0, 0), 0) := rfl
theorem s75_91 {c : Nat → List AV → SS → Option Out} {l1 l2 l3 l4 l5 l6 l7 : Option AV} {o : OId} {L2 : List (Nat × AV)} {St : List AV} {S : SS} : ev c 75 91 [some (aR o), l1, l2, l3, l4, l5, l6, l7] L2 St S = ev c 75 92 [some (aR o), l1, l2, l3, l4, l5, l6, l7] L2 (aR o :: St) S := ev_go i75_91 rfl
theorem i75_92 : insAt 75 92 = some (.iload_n 2, 1, (0, 0, 0, 0), 0) := rfl
theorem s75_92 {c : Nat → List AV → SS → Option Out} {l0 l1 l3 l4 l5 l6 l7 : Option AV} {x : Int32} {L2 : List (Nat × AV)} {St : List AV} {S : SS} : ev c 75 92 [l0, l1, some (aI x), l3, l4, l5, l6, l7] L2 St S = ev c 75 93 [l0, l1, some (aI x), l3, l4, l5, l6, l7] L2 (aI x :: St) S := ev_go i75_92 rfl
theorem i75_93 : insAt 75 93 = some (.iconst 1, 1, (0, 0, 0, 0), 0) := rfl
theorem s75_93 {c : Nat → List AV → SS → Option Out} {l0 l1 l2 l3 l4 l5 l6 l7 : Option AV} {L2 : List (Nat × AV)} {St : List AV} {S : SS} : ev c 75 93 [l0, l1, l2, l3, l4, l5, l6, l7] L2 St S = ev c 75 94 [l0, l1, l2, l3, l4, l5, l6, l7] L2 (aI 1 :: St) S := ev_go i75_93 rfl
theorem i75_94 : insAt 75 94 = some (.iadd, 1, (0, 0, 0, 0), 0) := rfl
theorem s75_94 {c : Nat → List AV → SS → Option Out} {l0 l1 l2 l3 l4 l5 l6 l7 : Option AV} {x y : Int32} {L2 : List (Nat × AV)} {St : List AV} {S : SS} : ev c 75 94 [l0, l1, l2, l3, l4, l5, l6, l7] L2 (aI y :: aI x :: St) S = ev c 75 95 [l0, l1, l2, l3, l4, l5, l6, l7] L2 (aI (x + y) :: St) S := ev_go i75_94 rfl
theorem i75_95 : insAt 75 95 = some (.invokestatic 114, 3, (69, 2, 0, 0), 184) := rfl
theorem s75_95 {c : Nat → List AV → SS → Option Out} {l0 l1 l2 l3 l4 l5 l6 l7 : Option AV} {a0 : OId} {a1 : Int32} {L2 : List (Nat × AV)} {S : SS} : ev c 75 95 [l0, l1, l2, l3, l4, l5, l6, l7] L2 [aI a1, aR a0] S = ck (c 69 [aR a0, aI a1] S) (fun v S' => ev c 75 98 [l0, l1, l2, l3, l4, l5, l6, l7] L2 (v.toList ++ []) S') := ev_call i75_95 rfl
theorem i75_98 : insAt 75 98 = some (.istore 6, 2, (0, 0, 0, 0), 0) := rfl
theorem s75_98 {c : Nat → List AV → SS → Option Out} {l0 l1 l2 l3 l4 l5 l6 l7 : Option AV} {x : Int32} {L2 : List (Nat × AV)} {St : List AV} {S : SS} : ev c 75 98 [l0, l1, l2, l3, l4, l5, l6, l7] L2 (aI x :: St) S = ev c 75 100 [l0, l1, l2, l3, l4, l5, some (aI x), l7] (kil L2 6) St S := ev_go i75_98 rfl
theorem i75_100 : insAt 75 100 = some (.iinc 7 1, 3, (0, 0, 0, 0), 0) := rfl
theorem s75_100 {c : Nat → List AV → SS → Option Out} {l0 l1 l2 l3 l4 l5 l6 : Option AV} {x : Int32} {L2 : List (Nat × AV)} {St : List AV} {S : SS} : ev c 75 100 [l0, l1, l2, l3, l4, l5, l6, some (aI x)] L2 St S = ev c 75 103 [l0, l1, l2, l3, l4, l5, l6, some (aI (x + 1))] (kil L2 7) St S := ev_go i75_100 rfl
theorem i75_103 : insAt 75 103 = some (.goto (-65), 3, (0, 0, 0, 0), 0) := rfl
theorem s75_103 {c : Nat → List AV → SS → Option Out} {l0 l1 l2 l3 l4 l5 l6 l7 : Option AV} {L2 : List (Nat × AV)} {St : List AV} {S : SS} : ev c 75 103 [l0, l1, l2, l3, l4, l5, l6, l7] L2 St S = ev c 75 38 [l0, l1, l2, l3, l4, l5, l6, l7] L2 St S := ev_go i75_103 rfl
theorem i75_106 : insAt 75 106 = some (.aload_n 3, 1, (0, 0, 0, 0), 0) := rfl
theorem s75_106 {c : Nat → List AV → SS → Option Out} {l0 l1 l2 l4 l5 l6 l7 : Option AV} {o : OId} {L2 : List (Nat × AV)} {St : List AV} {S : SS} : ev c 75 106 [l0, l1, l2, some (aR o), l4, l5, l6, l7] L2 St S = ev c 75 107 [l0, l1, l2, some (aR o), l4, l5, l6, l7] L2 (aR o :: St) S := ev_go i75_106 rfl
theorem i75_107 : insAt 75 107 = some (.iload_n 1, 1, (0, 0, 0, 0), 0) := rfl
theorem s75_107 {c : Nat → List AV → SS → Option Out} {l0 l2 l3 l4 l5 l6 l7 : Option AV} {x : Int32} {L2 : List (Nat × AV)} {St : List AV} {S : SS} : ev c 75 107 [l0, some (aI x), l2, l3, l4, l5, l6, l7] L2 St S = ev c 75 108 [l0, some (aI x), l2, l3, l4, l5, l6, l7] L2 (aI x :: St) S := ev_go i75_107 rfl
theorem i75_108 : insAt 75 108 = some (.iload 4, 2, (0, 0, 0, 0), 0) := rfl
theorem s75_108 {c : Nat → List AV → SS → Option Out} {l0 l1 l2 l3 l5 l6 l7 : Option AV} {x : Int32} {L2 : List (Nat × AV)} {St : List AV} {S : SS} : ev c 75 108 [l0, l1, l2, l3, some (aI x), l5, l6, l7] L2 St S = ev c 75 110 [l0, l1, l2, l3, some (aI x), l5, l6, l7] L2 (aI x :: St) S := ev_go i75_108 rfl
theorem i75_110 : insAt 75 110 = some (.invokestatic 85, 3, (35, 3, 1, 0), 180) := rfl
theorem s75_110 {c : Nat → List AV → SS → Option Out} {l0 l1 l2 l3 l4 l5 l6 l7 : Option AV} {a0 : OId} {a1 : Int32} {a2 : Int32} {L2 : List (Nat × AV)} {S : SS} : ev c 75 110 [l0, l1, l2, l3, l4, l5, l6, l7] L2 [aI a2, aI a1, aR a0] S = ck (c 35 [aR a0, aI a1, aI a2] S) (fun v S' => ev c 75 113 [l0, l1, l2, l3, l4, l5, l6, l7] L2 (v.toList ++ []) S') := ev_call i75_110 rfl
theorem i75_113 : insAt 75 113 = some (.iload 6, 2, (0, 0, 0, 0), 0) := rfl
theorem s75_113 {c : Nat → List AV → SS → Option Out} {l0 l1 l2 l3 l4 l5 l7 : Option AV} {x : Int32} {L2 : List (Nat × AV)} {St : List AV} {S : SS} : ev c 75 113 [l0, l1, l2, l3, l4, l5, some (aI x), l7] L2 St S = ev c 75 115 [l0, l1, l2, l3, l4, l5, some (aI x), l7] L2 (aI x :: St) S := ev_go i75_113 rfl
theorem i75_115 : insAt 75 115 = some (.ireturn, 1, (0, 0, 0, 0), 0) := rfl
theorem s75_115 {c : Nat → List AV → SS → Option Out} {l0 l1 l2 l3 l4 l5 l6 l7 : Option AV} {x : Int32} {L2 : List (Nat × AV)} {S : SS} : ev c 75 115 [l0, l1, l2, l3, l4, l5, l6, l7] L2 [aI x] S = if x = 0 ∨ x = 1 then some (.inl (some (aI x)), S) else none := ev_rt i75_115 rfl
theorem m75 {d : Nat} {a0 : OId} {a1 : Int32} {a2 : Int32} {S : SS} : evm (d + 1) 75 [aR a0, aI a1, aI a2] S = ev (evm d) 75 0 [some (aR a0), some (aI a1), some (aI a2), none, none, none, none, none] [] [] S := evm_s (n := 8) rfl (Nat.le_of_ble_eq_true rfl) rfl rfl
/-! FrequencyOffice$Net.openTo(I)I -/
theorem i76_0 : insAt 76 0 = some (.lconst 0, 1, (0, 0, 0, 0), 0) := rfl
theorem s76_0 {c : Nat → List AV → SS → Option Out} {l0 l1 l2 l3 l4 : Option AV} {L2 : List (Nat × AV)} {St : List AV} {S : SS} : ev c 76 0 [l0, l1, l2, l3, l4] L2 St S = ev c 76 1 [l0, l1, l2, l3, l4] L2 (aL 0 :: St) S := ev_go i76_0 rfl
theorem i76_1 : insAt 76 1 = some (.lstore_n 2, 1, (0, 0, 0, 0), 0) := rfl
theorem s76_1 {c : Nat → List AV → SS → Option Out} {l0 l1 l2 l3 l4 : Option AV} {x : Int64} {L2 : List (Nat × AV)} {St : List AV} {S : SS} : ev c 76 1 [l0, l1, l2, l3, l4] L2 (aL x :: St) S = ev c 76 2 [l0, l1, none, none, l4] ((2, aL x) :: kil2 L2 2) St S := ev_go i76_1 rfl
theorem i76_2 : insAt 76 2 = some (.iconst 0, 1, (0, 0, 0, 0), 0) := rfl
theorem s76_2 {c : Nat → List AV → SS → Option Out} {l0 l1 l2 l3 l4 : Option AV} {L2 : List (Nat × AV)} {St : List AV} {S : SS} : ev c 76 2 [l0, l1, l2, l3, l4] L2 St S = ev c 76 3 [l0, l1, l2, l3, l4] L2 (aI 0 :: St) S := ev_go i76_2 rfl
theorem i76_3 : insAt 76 3 = some (.istore 4, 2, (0, 0, 0, 0), 0) := rfl
theorem s76_3 {c : Nat → List AV → SS → Option Out} {l0 l1 l2 l3 l4 : Option AV} {x : Int32} {L2 : List (Nat × AV)} {St : List AV} {S : SS} : ev c 76 3 [l0, l1, l2, l3, l4] L2 (aI x :: St) S = ev c 76 5 [l0, l1, l2, l3, some (aI x)] (kil L2 4) St S := ev_go i76_3 rfl
theorem i76_5 : insAt 76 5 = some (.iload 4, 2, (0, 0, 0, 0), 0) := rfl
theorem s76_5 {c : Nat → List AV → SS → Option Out} {l0 l1 l2 l3 : Option AV} {x : Int32} {L2 : List (Nat × AV)} {St : List AV} {S : SS} : ev c 76 5 [l0, l1, l2, l3, some (aI x)] L2 St S = ev c 76 7 [l0, l1, l2, l3, some (aI x)] L2 (aI x :: St) S := ev_go i76_5 rfl
theorem i76_7 : insAt 76 7 = some (.aload_n 0, 1, (0, 0, 0, 0), 0) := rfl
theorem s76_7 {c : Nat → List AV → SS → Option Out} {l1 l2 l3 l4 : Option AV} {o : OId} {L2 : List (Nat × AV)} {St : List AV} {S : SS} : ev c 76 7 [some (aR o), l1, l2, l3, l4] L2 St S = ev c 76 8 [some (aR o), l1, l2, l3, l4] L2 (aR o :: St) S := ev_go i76_7 rfl
theorem i76_8 : insAt 76 8 = some (.getfield 9, 3, (6, 0, 0, 0), 51) := rfl
theorem s76_8 {c : Nat → List AV → SS → Option Out} {l0 l1 l2 l3 l4 : Option AV} {j t : Nat} {L2 : List (Nat × AV)} {St : List AV} {S : SS} : ev c 76 8 [l0, l1, l2, l3, l4] L2 (aR (6, j, t) :: St) S = ev c 76 11 [l0, l1, l2, l3, l4] L2 (aI (S.1 (6, j, t) 0) :: St) S := ev_go i76_8 rfl
theorem i76_11 : insAt 76 11 = some (.if_icmp .ge 37, 3, (0, 0, 0, 0), 0) := rfl
theorem s76_11 {c : Nat → List AV → SS → Option Out} {l0 l1 l2 l3 l4 : Option AV} {x y : Int32} {L2 : List (Nat × AV)} {St : List AV} {S : SS} : ev c 76 11 [l0, l1, l2, l3, l4] L2 (aI y :: aI x :: St) S = if y ≤ x then ev c 76 48 [l0, l1, l2, l3, l4] L2 St S else ev c 76 14 [l0, l1, l2, l3, l4] L2 St S := ev_br i76_11 rfl
theorem i76_14 : insAt 76 14 = some (.iload 4, 2, (0, 0, 0, 0), 0) := rfl
theorem s76_14 {c : Nat → List AV → SS → Option Out} {l0 l1 l2 l3 : Option AV} {x : Int32} {L2 : List (Nat × AV)} {St : List AV} {S : SS} : ev c 76 14 [l0, l1, l2, l3, some (aI x)] L2 St S = ev c 76 16 [l0, l1, l2, l3, some (aI x)] L2 (aI x :: St) S := ev_go i76_14 rfl
theorem i76_16 : insAt 76 16 = some (.iload_n 1, 1, (0, 0, 0, 0), 0) := rfl
theorem s76_16 {c : Nat → List AV → SS → Option Out} {l0 l2 l3 l4 : Option AV} {x : Int32} {L2 : List (Nat × AV)} {St : List AV} {S : SS} : ev c 76 16 [l0, some (aI x), l2, l3, l4] L2 St S = ev c 76 17 [l0, some (aI x), l2, l3, l4] L2 (aI x :: St) S := ev_go i76_16 rfl
theorem i76_17 : insAt 76 17 = some (.if_icmp .eq 25, 3, (0, 0, 0, 0), 0) := rfl
theorem s76_17 {c : Nat → List AV → SS → Option Out} {l0 l1 l2 l3 l4 : Option AV} {x y : Int32} {L2 : List (Nat × AV)} {St : List AV} {S : SS} : ev c 76 17 [l0, l1, l2, l3, l4] L2 (aI y :: aI x :: St) S = if x = y then ev c 76 42 [l0, l1, l2, l3, l4] L2 St S else ev c 76 20 [l0, l1, l2, l3, l4] L2 St S := ev_br i76_17 rfl
theorem i76_20 : insAt 76 20 = some (.lload_n 2, 1, (0, 0, 0, 0), 0) := rfl
theorem s76_20 {c : Nat → List AV → SS → Option Out} {l0 l1 l2 l3 l4 : Option AV} {x : Int64} {L2 : List (Nat × AV)} {St : List AV} {S : SS} (h : ldL L2 2 = some x) : ev c 76 20 [l0, l1, l2, l3, l4] L2 St S = ev c 76 21 [l0, l1, l2, l3, l4] L2 (aL x :: St) S := ev_go i76_20 (by simp only [stepI]; exact (congrArg (fun q => match q with | some x => nx (20 + 1) [l0, l1, l2, l3, l4] L2 (aL x :: St) S | none => none) h))
theorem i76_21 : insAt 76 21 = some (.aload_n 0, 1, (0, 0, 0, 0), 0) := rfl
theorem s76_21 {c : Nat → List AV → SS → Option Out} {l1 l2 l3 l4 : Option AV} {o : OId} {L2 : List (Nat × AV)} {St : List AV} {S : SS} : ev c 76 21 [some (aR o), l1, l2, l3, l4] L2 St S = ev c 76 22 [some (aR o), l1, l2, l3, l4] L2 (aR o :: St) S := ev_go i76_21 rfl
theorem i76_22 : insAt 76 22 = some (.getfield 22, 3, (6, 3, 0, 0), 54) := rfl
theorem s76_22 {c : Nat → List AV → SS → Option Out} {l0 l1 l2 l3 l4 : Option AV} {j t : Nat} {L2 : List (Nat × AV)} {St : List AV} {S : SS} : ev c 76 22 [l0, l1, l2, l3, l4] L2 (aR (6, j, t) :: St) S = ev c 76 25 [l0, l1, l2, l3, l4] L2 (S.2.2.1 (6, j, t) 3 :: St) S := ev_go i76_22 rfl
theorem i76_25 : insAt 76 25 = some (.iload 4, 2, (0, 0, 0, 0), 0) := rfl
theorem s76_25 {c : Nat → List AV → SS → Option Out} {l0 l1 l2 l3 : Option AV} {x : Int32} {L2 : List (Nat × AV)} {St : List AV} {S : SS} : ev c 76 25 [l0, l1, l2, l3, some (aI x)] L2 St S = ev c 76 27 [l0, l1, l2, l3, some (aI x)] L2 (aI x :: St) S := ev_go i76_25 rfl
theorem i76_27 : insAt 76 27 = some (.invokestatic 47, 3, (31, 2, 1, 0), 111) := rfl
theorem s76_27 {c : Nat → List AV → SS → Option Out} {l0 l1 l2 l3 l4 : Option AV} {t0 : AV} {a0 : OId} {a1 : Int32} {L2 : List (Nat × AV)} {S : SS} : ev c 76 27 [l0, l1, l2, l3, l4] L2 [aI a1, aR a0, t0] S = ck (c 31 [aR a0, aI a1] S) (fun v S' => ev c 76 30 [l0, l1, l2, l3, l4] L2 (v.toList ++ [t0]) S') := ev_call i76_27 rfl
theorem i76_30 : insAt 76 30 = some (.aload_n 0, 1, (0, 0, 0, 0), 0) := rfl
theorem s76_30 {c : Nat → List AV → SS → Option Out} {l1 l2 l3 l4 : Option AV} {o : OId} {L2 : List (Nat × AV)} {St : List AV} {S : SS} : ev c 76 30 [some (aR o), l1, l2, l3, l4] L2 St S = ev c 76 31 [some (aR o), l1, l2, l3, l4] L2 (aR o :: St) S := ev_go i76_30 rfl
theorem i76_31 : insAt 76 31 = some (.iload_n 1, 1, (0, 0, 0, 0), 0) := rfl
theorem s76_31 {c : Nat → List AV → SS → Option Out} {l0 l2 l3 l4 : Option AV} {x : Int32} {L2 : List (Nat × AV)} {St : List AV} {S : SS} : ev c 76 31 [l0, some (aI x), l2, l3, l4] L2 St S = ev c 76 32 [l0, some (aI x), l2, l3, l4] L2 (aI x :: St) S := ev_go i76_31 rfl
theorem i76_32 : insAt 76 32 = some (.iload 4, 2, (0, 0, 0, 0), 0) := rfl
theorem s76_32 {c : Nat → List AV → SS → Option Out} {l0 l1 l2 l3 : Option AV} {x : Int32} {L2 : List (Nat × AV)} {St : List AV} {S : SS} : ev c 76 32 [l0, l1, l2, l3, some (aI x)] L2 St S = ev c 76 34 [l0, l1, l2, l3, some (aI x)] L2 (aI x :: St) S := ev_go i76_32 rfl
theorem i76_34 : insAt 76 34 = some (.invokevirtual 68, 3, (39, 2, 2, 6), 123) := rfl
theorem s76_34 {c : Nat → List AV → SS → Option Out} {l0 l1 l2 l3 l4 : Option AV} {t0 t1 : AV} {a0 : Int32} {a1 : Int32} {j t : Nat} {L2 : List (Nat × AV)} {S : SS} : ev c 76 34 [l0, l1, l2, l3, l4] L2 [aI a1, aI a0, aR (6, j, t), t0, t1] S = ck (c 39 [aR (6, j, t), aI a0, aI a1] S) (fun v S' => ev c 76 37 [l0, l1, l2, l3, l4] L2 (v.toList ++ [t0, t1]) S') := ev_call i76_34 rfl
theorem i76_37 : insAt 76 37 = some (.invokestatic 71, 3, (44, 2, 1, 0), 200) := rfl
theorem s76_37 {c : Nat → List AV → SS → Option Out} {l0 l1 l2 l3 l4 : Option AV} {t0 : AV} {a0 : Int32} {a1 : Int32} {L2 : List (Nat × AV)} {S : SS} : ev c 76 37 [l0, l1, l2, l3, l4] L2 [aI a1, aI a0, t0] S = ck (c 44 [aI a0, aI a1] S) (fun v S' => ev c 76 40 [l0, l1, l2, l3, l4] L2 (v.toList ++ [t0]) S') := ev_call i76_37 rfl
theorem i76_40 : insAt 76 40 = some (.lor, 1, (0, 0, 0, 0), 0) := rfl
theorem s76_40 {c : Nat → List AV → SS → Option Out} {l0 l1 l2 l3 l4 : Option AV} {x y : Int64} {L2 : List (Nat × AV)} {St : List AV} {S : SS} : ev c 76 40 [l0, l1, l2, l3, l4] L2 (aL y :: aL x :: St) S = ev c 76 41 [l0, l1, l2, l3, l4] L2 (aL (x ||| y) :: St) S := ev_go i76_40 rfl
theorem i76_41 : insAt 76 41 = some (.lstore_n 2, 1, (0, 0, 0, 0), 0) := rfl
theorem s76_41 {c : Nat → List AV → SS → Option Out} {l0 l1 l2 l3 l4 : Option AV} {x : Int64} {L2 : List (Nat × AV)} {St : List AV} {S : SS} : ev c 76 41 [l0, l1, l2, l3, l4] L2 (aL x :: St) S = ev c 76 42 [l0, l1, none, none, l4] ((2, aL x) :: kil2 L2 2) St S := ev_go i76_41 rfl
theorem i76_42 : insAt 76 42 = some (.iinc 4 1, 3, (0, 0, 0, 0), 0) := rfl
theorem s76_42 {c : Nat → List AV → SS → Option Out} {l0 l1 l2 l3 : Option AV} {x : Int32} {L2 : List (Nat × AV)} {St : List AV} {S : SS} : ev c 76 42 [l0, l1, l2, l3, some (aI x)] L2 St S = ev c 76 45 [l0, l1, l2, l3, some (aI (x + 1))] (kil L2 4) St S := ev_go i76_42 rfl
theorem i76_45 : insAt 76 45 = some (.goto (-40), 3, (0, 0, 0, 0), 0) := rfl
theorem s76_45 {c : Nat → List AV → SS → Option Out} {l0 l1 l2 l3 l4 : Option AV} {L2 : List (Nat × AV)} {St : List AV} {S : SS} : ev c 76 45 [l0, l1, l2, l3, l4] L2 St S = ev c 76 5 [l0, l1, l2, l3, l4] L2 St S := ev_go i76_45 rfl
theorem i76_48 : insAt 76 48 = some (.lload_n 2, 1, (0, 0, 0, 0), 0) := rfl
theorem s76_48 {c : Nat → List AV → SS → Option Out} {l0 l1 l2 l3 l4 : Option AV} {x : Int64} {L2 : List (Nat × AV)} {St : List AV} {S : SS} (h : ldL L2 2 = some x) : ev c 76 48 [l0, l1, l2, l3, l4] L2 St S = ev c 76 49 [l0, l1, l2, l3, l4] L2 (aL x :: St) S := ev_go i76_48 (by simp only [stepI]; exact (congrArg (fun q => match q with | some x => nx (48 + 1) [l0, l1, l2, l3, l4] L2 (aL x :: St) S | none => none) h))
theorem i76_49 : insAt 76 49 = some (.ldc2_w 75, 3, (201, 0, 0, 0), -1) := rfl
theorem s76_49 {c : Nat → List AV → SS → Option Out} {l0 l1 l2 l3 l4 : Option AV} {L2 : List (Nat × AV)} {St : List AV} {S : SS} : ev c 76 49 [l0, l1, l2, l3, l4] L2 St S = ev c 76 52 [l0, l1, l2, l3, l4] L2 (aL (-1) :: St) S := ev_go i76_49 rfl
theorem i76_52 : insAt 76 52 = some (.lxor, 1, (0, 0, 0, 0), 0) := rfl
theorem s76_52 {c : Nat → List AV → SS → Option Out} {l0 l1 l2 l3 l4 : Option AV} {x y : Int64} {L2 : List (Nat × AV)} {St : List AV} {S : SS} : ev c 76 52 [l0, l1, l2, l3, l4] L2 (aL y :: aL x :: St) S = ev c 76 53 [l0, l1, l2, l3, l4] L2 (aL (x ^^^ y) :: St) S := ev_go i76_52 rfl
theorem i76_53 : insAt 76 53 = some (.ldc2_w 77, 3, (202, 0, 0, 0), 255) := rfl
theorem s76_53 {c : Nat → List AV → SS → Option Out} {l0 l1 l2 l3 l4 : Option AV} {L2 : List (Nat × AV)} {St : List AV} {S : SS} : ev c 76 53 [l0, l1, l2, l3, l4] L2 St S = ev c 76 56 [l0, l1, l2, l3, l4] L2 (aL 255 :: St) S := ev_go i76_53 rfl
theorem i76_56 : insAt 76 56 = some (.land, 1, (0, 0, 0, 0), 0) := rfl
theorem s76_56 {c : Nat → List AV → SS → Option Out} {l0 l1 l2 l3 l4 : Option AV} {x y : Int64} {L2 : List (Nat × AV)} {St : List AV} {S : SS} : ev c 76 56 [l0, l1, l2, l3, l4] L2 (aL y :: aL x :: St) S = ev c 76 57 [l0, l1, l2, l3, l4] L2 (aL (x &&& y) :: St) S := ev_go i76_56 rfl
theorem i76_57 : insAt 76 57 = some (.l2i, 1, (0, 0, 0, 0), 0) := rfl
theorem s76_57 {c : Nat → List AV → SS → Option Out} {l0 l1 l2 l3 l4 : Option AV} {x : Int64} {L2 : List (Nat × AV)} {St : List AV} {S : SS} : ev c 76 57 [l0, l1, l2, l3, l4] L2 (aL x :: St) S = ev c 76 58 [l0, l1, l2, l3, l4] L2 (aI x.toInt32 :: St) S := ev_go i76_57 rfl
theorem i76_58 : insAt 76 58 = some (.ireturn, 1, (0, 0, 0, 0), 0) := rfl
theorem s76_58 {c : Nat → List AV → SS → Option Out} {l0 l1 l2 l3 l4 : Option AV} {x : Int32} {L2 : List (Nat × AV)} {S : SS} : ev c 76 58 [l0, l1, l2, l3, l4] L2 [aI x] S = some (.inl (some (aI x)), S) := ev_end i76_58 rfl
theorem m76 {d : Nat} {o : OId} {a0 : Int32} {S : SS} : evm (d + 1) 76 [aR o, aI a0] S = ev (evm d) 76 0 [some (aR o), some (aI a0), none, none, none] [] [] S := evm_s (n := 5) rfl (Nat.le_of_ble_eq_true rfl) rfl rfl
/-! FrequencyOffice$Plan.setMove(IIII)V -/
theorem i77_0 : insAt 77 0 = some (.aload_n 0, 1, (0, 0, 0, 0), 0) := rfl
theorem s77_0 {c : Nat → List AV → SS → Option Out} {l1 l2 l3 l4 : Option AV} {o : OId} {L2 : List (Nat × AV)} {St : List AV} {S : SS} : ev c 77 0 [some (aR o), l1, l2, l3, l4] L2 St S = ev c 77 1 [some (aR o), l1, l2, l3, l4] L2 (aR o :: St) S := ev_go i77_0 rfl
theorem i77_1 : insAt 77 1 = some (.getfield 18, 3, (7, 2, 0, 0), 41) := rfl
theorem s77_1 {c : Nat → List AV → SS → Option Out} {l0 l1 l2 l3 l4 : Option AV} {j t : Nat} {L2 : List (Nat × AV)} {St : List AV} {S : SS} : ev c 77 1 [l0, l1, l2, l3, l4] L2 (aR (7, j, t) :: St) S = ev c 77 4 [l0, l1, l2, l3, l4] L2 (S.2.2.1 (7, j, t) 2 :: St) S := ev_go i77_1 rfl
theorem i77_4 : insAt 77 4 = some (.iload_n 1, 1, (0, 0, 0, 0), 0) := rfl
theorem s77_4 {c : Nat → List AV → SS → Option Out} {l0 l2 l3 l4 : Option AV} {x : Int32} {L2 : List (Nat × AV)} {St : List AV} {S : SS} : ev c 77 4 [l0, some (aI x), l2, l3, l4] L2 St S = ev c 77 5 [l0, some (aI x), l2, l3, l4] L2 (aI x :: St) S := ev_go i77_4 rfl
theorem i77_5 : insAt 77 5 = some (.iload_n 2, 1, (0, 0, 0, 0), 0) := rfl
theorem s77_5 {c : Nat → List AV → SS → Option Out} {l0 l1 l3 l4 : Option AV} {x : Int32} {L2 : List (Nat × AV)} {St : List AV} {S : SS} : ev c 77 5 [l0, l1, some (aI x), l3, l4] L2 St S = ev c 77 6 [l0, l1, some (aI x), l3, l4] L2 (aI x :: St) S := ev_go i77_5 rfl
theorem i77_6 : insAt 77 6 = some (.invokestatic 34, 3, (35, 3, 1, 0), 203) := rfl
theorem s77_6 {c : Nat → List AV → SS → Option Out} {l0 l1 l2 l3 l4 : Option AV} {a0 : OId} {a1 : Int32} {a2 : Int32} {L2 : List (Nat × AV)} {S : SS} : ev c 77 6 [l0, l1, l2, l3, l4] L2 [aI a2, aI a1, aR a0] S = ck (c 35 [aR a0, aI a1, aI a2] S) (fun v S' => ev c 77 9 [l0, l1, l2, l3, l4] L2 (v.toList ++ []) S') := ev_call i77_6 rfl
theorem i77_9 : insAt 77 9 = some (.aload_n 0, 1, (0, 0, 0, 0), 0) := rfl
theorem s77_9 {c : Nat → List AV → SS → Option Out} {l1 l2 l3 l4 : Option AV} {o : OId} {L2 : List (Nat × AV)} {St : List AV} {S : SS} : ev c 77 9 [some (aR o), l1, l2, l3, l4] L2 St S = ev c 77 10 [some (aR o), l1, l2, l3, l4] L2 (aR o :: St) S := ev_go i77_9 rfl
theorem i77_10 : insAt 77 10 = some (.getfield 22, 3, (7, 3, 0, 0), 42) := rfl
theorem s77_10 {c : Nat → List AV → SS → Option Out} {l0 l1 l2 l3 l4 : Option AV} {j t : Nat} {L2 : List (Nat × AV)} {St : List AV} {S : SS} : ev c 77 10 [l0, l1, l2, l3, l4] L2 (aR (7, j, t) :: St) S = ev c 77 13 [l0, l1, l2, l3, l4] L2 (S.2.2.1 (7, j, t) 3 :: St) S := ev_go i77_10 rfl
theorem i77_13 : insAt 77 13 = some (.iload_n 1, 1, (0, 0, 0, 0), 0) := rfl
theorem s77_13 {c : Nat → List AV → SS → Option Out} {l0 l2 l3 l4 : Option AV} {x : Int32} {L2 : List (Nat × AV)} {St : List AV} {S : SS} : ev c 77 13 [l0, some (aI x), l2, l3, l4] L2 St S = ev c 77 14 [l0, some (aI x), l2, l3, l4] L2 (aI x :: St) S := ev_go i77_13 rfl
theorem i77_14 : insAt 77 14 = some (.iload_n 3, 1, (0, 0, 0, 0), 0) := rfl
theorem s77_14 {c : Nat → List AV → SS → Option Out} {l0 l1 l2 l4 : Option AV} {x : Int32} {L2 : List (Nat × AV)} {St : List AV} {S : SS} : ev c 77 14 [l0, l1, l2, some (aI x), l4] L2 St S = ev c 77 15 [l0, l1, l2, some (aI x), l4] L2 (aI x :: St) S := ev_go i77_14 rfl
theorem i77_15 : insAt 77 15 = some (.invokestatic 34, 3, (35, 3, 1, 0), 203) := rfl
theorem s77_15 {c : Nat → List AV → SS → Option Out} {l0 l1 l2 l3 l4 : Option AV} {a0 : OId} {a1 : Int32} {a2 : Int32} {L2 : List (Nat × AV)} {S : SS} : ev c 77 15 [l0, l1, l2, l3, l4] L2 [aI a2, aI a1, aR a0] S = ck (c 35 [aR a0, aI a1, aI a2] S) (fun v S' => ev c 77 18 [l0, l1, l2, l3, l4] L2 (v.toList ++ []) S') := ev_call i77_15 rfl
theorem i77_18 : insAt 77 18 = some (.aload_n 0, 1, (0, 0, 0, 0), 0) := rfl
theorem s77_18 {c : Nat → List AV → SS → Option Out} {l1 l2 l3 l4 : Option AV} {o : OId} {L2 : List (Nat × AV)} {St : List AV} {S : SS} : ev c 77 18 [some (aR o), l1, l2, l3, l4] L2 St S = ev c 77 19 [some (aR o), l1, l2, l3, l4] L2 (aR o :: St) S := ev_go i77_18 rfl
theorem i77_19 : insAt 77 19 = some (.getfield 25, 3, (7, 4, 0, 0), 43) := rfl
theorem s77_19 {c : Nat → List AV → SS → Option Out} {l0 l1 l2 l3 l4 : Option AV} {j t : Nat} {L2 : List (Nat × AV)} {St : List AV} {S : SS} : ev c 77 19 [l0, l1, l2, l3, l4] L2 (aR (7, j, t) :: St) S = ev c 77 22 [l0, l1, l2, l3, l4] L2 (S.2.2.1 (7, j, t) 4 :: St) S := ev_go i77_19 rfl
theorem i77_22 : insAt 77 22 = some (.iload_n 1, 1, (0, 0, 0, 0), 0) := rfl
theorem s77_22 {c : Nat → List AV → SS → Option Out} {l0 l2 l3 l4 : Option AV} {x : Int32} {L2 : List (Nat × AV)} {St : List AV} {S : SS} : ev c 77 22 [l0, some (aI x), l2, l3, l4] L2 St S = ev c 77 23 [l0, some (aI x), l2, l3, l4] L2 (aI x :: St) S := ev_go i77_22 rfl
theorem i77_23 : insAt 77 23 = some (.iload 4, 2, (0, 0, 0, 0), 0) := rfl
theorem s77_23 {c : Nat → List AV → SS → Option Out} {l0 l1 l2 l3 : Option AV} {x : Int32} {L2 : List (Nat × AV)} {St : List AV} {S : SS} : ev c 77 23 [l0, l1, l2, l3, some (aI x)] L2 St S = ev c 77 25 [l0, l1, l2, l3, some (aI x)] L2 (aI x :: St) S := ev_go i77_23 rfl
theorem i77_25 : insAt 77 25 = some (.invokestatic 34, 3, (35, 3, 1, 0), 203) := rfl
theorem s77_25 {c : Nat → List AV → SS → Option Out} {l0 l1 l2 l3 l4 : Option AV} {a0 : OId} {a1 : Int32} {a2 : Int32} {L2 : List (Nat × AV)} {S : SS} : ev c 77 25 [l0, l1, l2, l3, l4] L2 [aI a2, aI a1, aR a0] S = ck (c 35 [aR a0, aI a1, aI a2] S) (fun v S' => ev c 77 28 [l0, l1, l2, l3, l4] L2 (v.toList ++ []) S') := ev_call i77_25 rfl
theorem i77_28 : insAt 77 28 = some (.return_, 1, (0, 0, 0, 0), 0) := rfl
theorem s77_28 {c : Nat → List AV → SS → Option Out} {l0 l1 l2 l3 l4 : Option AV} {L2 : List (Nat × AV)} {S : SS} : ev c 77 28 [l0, l1, l2, l3, l4] L2 [] S = some (.inl none, S) := ev_end i77_28 rfl
theorem m77 {d : Nat} {o : OId} {a0 : Int32} {a1 : Int32} {a2 : Int32} {a3 : Int32} {S : SS} : evm (d + 1) 77 [aR o, aI a0, aI a1, aI a2, aI a3] S = ev (evm d) 77 0 [some (aR o), some (aI a0), some (aI a1), some (aI a2), some (aI a3)] [] [] S := evm_s (n := 5) rfl (Nat.le_of_ble_eq_true rfl) rfl rfl
/-! FrequencyOffice$Books.append(IIIZ)I -/
theorem i78_0 : insAt 78 0 = some (.aload_n 0, 1, (0, 0, 0, 0), 0) := rfl
theorem s78_0 {c : Nat → List AV → SS → Option Out} {l1 l2 l3 l4 l5 l6 : Option AV} {o : OId} {L2 : List (Nat × AV)} {St : List AV} {S : SS} : ev c 78 0 [some (aR o), l1, l2, l3, l4, l5, l6] L2 St S = ev c 78 1 [some (aR o), l1, l2, l3, l4, l5, l6] L2 (aR o :: St) S := ev_go i78_0 rfl
theorem i78_1 : insAt 78 1 = some (.getfield 33, 3, (4, 7, 0, 0), 28) := rfl
theorem s78_1 {c : Nat → List AV → SS → Option Out} {l0 l1 l2 l3 l4 l5 l6 : Option AV} {j t : Nat} {L2 : List (Nat × AV)} {St : List AV} {S : SS} : ev c 78 1 [l0, l1, l2, l3, l4, l5, l6] L2 (aR (4, j, t) :: St) S = ev c 78 4 [l0, l1, l2, l3, l4, l5, l6] L2 (aI (S.1 (4, j, t) 7) :: St) S := ev_go i78_1 rfl
theorem i78_4 : insAt 78 4 = some (.istore 5, 2, (0, 0, 0, 0), 0) := rfl
theorem s78_4 {c : Nat → List AV → SS → Option Out} {l0 l1 l2 l3 l4 l5 l6 : Option AV} {x : Int32} {L2 : List (Nat × AV)} {St : List AV} {S : SS} : ev c 78 4 [l0, l1, l2, l3, l4, l5, l6] L2 (aI x :: St) S = ev c 78 6 [l0, l1, l2, l3, l4, some (aI x), l6] (kil L2 5) St S := ev_go i78_4 rfl
theorem i78_6 : insAt 78 6 = some (.aload_n 0, 1, (0, 0, 0, 0), 0) := rfl
theorem s78_6 {c : Nat → List AV → SS → Option Out} {l1 l2 l3 l4 l5 l6 : Option AV} {o : OId} {L2 : List (Nat × AV)} {St : List AV} {S : SS} : ev c 78 6 [some (aR o), l1, l2, l3, l4, l5, l6] L2 St S = ev c 78 7 [some (aR o), l1, l2, l3, l4, l5, l6] L2 (aR o :: St) S := ev_go i78_6 rfl
theorem i78_7 : insAt 78 7 = some (.dup, 1, (0, 0, 0, 0), 0) := rfl
theorem s78_7 {c : Nat → List AV → SS → Option Out} {l0 l1 l2 l3 l4 l5 l6 : Option AV} {x : OId} {L2 : List (Nat × AV)} {St : List AV} {S : SS} : ev c 78 7 [l0, l1, l2, l3, l4, l5, l6] L2 (aR x :: St) S = ev c 78 8 [l0, l1, l2, l3, l4, l5, l6] L2 (aR x :: aR x :: St) S := ev_go i78_7 rfl
theorem i78_8 : insAt 78 8 = some (.getfield 24, 3, (4, 4, 0, 0), 25) := rfl
theorem s78_8 {c : Nat → List AV → SS → Option Out} {l0 l1 l2 l3 l4 l5 l6 : Option AV} {j t : Nat} {L2 : List (Nat × AV)} {St : List AV} {S : SS} : ev c 78 8 [l0, l1, l2, l3, l4, l5, l6] L2 (aR (4, j, t) :: St) S = ev c 78 11 [l0, l1, l2, l3, l4, l5, l6] L2 (aI (S.1 (4, j, t) 4) :: St) S := ev_go i78_8 rfl
theorem i78_11 : insAt 78 11 = some (.iconst 1, 1, (0, 0, 0, 0), 0) := rfl
theorem s78_11 {c : Nat → List AV → SS → Option Out} {l0 l1 l2 l3 l4 l5 l6 : Option AV} {L2 : List (Nat × AV)} {St : List AV} {S : SS} : ev c 78 11 [l0, l1, l2, l3, l4, l5, l6] L2 St S = ev c 78 12 [l0, l1, l2, l3, l4, l5, l6] L2 (aI 1 :: St) S := ev_go i78_11 rfl
theorem i78_12 : insAt 78 12 = some (.iadd, 1, (0, 0, 0, 0), 0) := rfl
theorem s78_12 {c : Nat → List AV → SS → Option Out} {l0 l1 l2 l3 l4 l5 l6 : Option AV} {x y : Int32} {L2 : List (Nat × AV)} {St : List AV} {S : SS} : ev c 78 12 [l0, l1, l2, l3, l4, l5, l6] L2 (aI y :: aI x :: St) S = ev c 78 13 [l0, l1, l2, l3, l4, l5, l6] L2 (aI (x + y) :: St) S := ev_go i78_12 rfl
theorem i78_13 : insAt 78 13 = some (.putfield 24, 3, (4, 4, 0, 0), 25) := rfl
theorem s78_13 {c : Nat → List AV → SS → Option Out} {l0 l1 l2 l3 l4 l5 l6 : Option AV} {j t : Nat} {x : Int32} {L2 : List (Nat × AV)} {St : List AV} {S : SS} : ev c 78 13 [l0, l1, l2, l3, l4, l5, l6] L2 (aI x :: aR (4, j, t) :: St) S = ev c 78 16 [l0, l1, l2, l3, l4, l5, l6] L2 St (setI S.1 (4, j, t) 4 x, S.2) := ev_go i78_13 rfl
theorem i78_16 : insAt 78 16 = some (.aload_n 0, 1, (0, 0, 0, 0), 0) := rfl
theorem s78_16 {c : Nat → List AV → SS → Option Out} {l1 l2 l3 l4 l5 l6 : Option AV} {o : OId} {L2 : List (Nat × AV)} {St : List AV} {S : SS} : ev c 78 16 [some (aR o), l1, l2, l3, l4, l5, l6] L2 St S = ev c 78 17 [some (aR o), l1, l2, l3, l4, l5, l6] L2 (aR o :: St) S := ev_go i78_16 rfl
theorem i78_17 : insAt 78 17 = some (.iload 5, 2, (0, 0, 0, 0), 0) := rfl
theorem s78_17 {c : Nat → List AV → SS → Option Out} {l0 l1 l2 l3 l4 l6 : Option AV} {x : Int32} {L2 : List (Nat × AV)} {St : List AV} {S : SS} : ev c 78 17 [l0, l1, l2, l3, l4, some (aI x), l6] L2 St S = ev c 78 19 [l0, l1, l2, l3, l4, some (aI x), l6] L2 (aI x :: St) S := ev_go i78_17 rfl
theorem i78_19 : insAt 78 19 = some (.invokevirtual 58, 3, (17, 1, 2, 4), 81) := rfl
theorem s78_19 {c : Nat → List AV → SS → Option Out} {l0 l1 l2 l3 l4 l5 l6 : Option AV} {a0 : Int32} {j t : Nat} {L2 : List (Nat × AV)} {S : SS} : ev c 78 19 [l0, l1, l2, l3, l4, l5, l6] L2 [aI a0, aR (4, j, t)] S = ck (c 17 [aR (4, j, t), aI a0] S) (fun v S' => ev c 78 22 [l0, l1, l2, l3, l4, l5, l6] L2 (v.toList ++ []) S') := ev_call i78_19 rfl
theorem i78_22 : insAt 78 22 = some (.astore 6, 2, (0, 0, 0, 0), 0) := rfl
theorem s78_22 {c : Nat → List AV → SS → Option Out} {l0 l1 l2 l3 l4 l5 l6 : Option AV} {o : OId} {L2 : List (Nat × AV)} {St : List AV} {S : SS} : ev c 78 22 [l0, l1, l2, l3, l4, l5, l6] L2 (aR o :: St) S = ev c 78 24 [l0, l1, l2, l3, l4, l5, some (aR o)] (kil L2 6) St S := ev_go i78_22 rfl
theorem i78_24 : insAt 78 24 = some (.aload 6, 2, (0, 0, 0, 0), 0) := rfl
theorem s78_24 {c : Nat → List AV → SS → Option Out} {l0 l1 l2 l3 l4 l5 : Option AV} {o : OId} {L2 : List (Nat × AV)} {St : List AV} {S : SS} : ev c 78 24 [l0, l1, l2, l3, l4, l5, some (aR o)] L2 St S = ev c 78 26 [l0, l1, l2, l3, l4, l5, some (aR o)] L2 (aR o :: St) S := ev_go i78_24 rfl
theorem i78_26 : insAt 78 26 = some (.aload_n 0, 1, (0, 0, 0, 0), 0) := rfl
theorem s78_26 {c : Nat → List AV → SS → Option Out} {l1 l2 l3 l4 l5 l6 : Option AV} {o : OId} {L2 : List (Nat × AV)} {St : List AV} {S : SS} : ev c 78 26 [some (aR o), l1, l2, l3, l4, l5, l6] L2 St S = ev c 78 27 [some (aR o), l1, l2, l3, l4, l5, l6] L2 (aR o :: St) S := ev_go i78_26 rfl
theorem i78_27 : insAt 78 27 = some (.getfield 24, 3, (4, 4, 0, 0), 25) := rfl
theorem s78_27 {c : Nat → List AV → SS → Option Out} {l0 l1 l2 l3 l4 l5 l6 : Option AV} {j t : Nat} {L2 : List (Nat × AV)} {St : List AV} {S : SS} : ev c 78 27 [l0, l1, l2, l3, l4, l5, l6] L2 (aR (4, j, t) :: St) S = ev c 78 30 [l0, l1, l2, l3, l4, l5, l6] L2 (aI (S.1 (4, j, t) 4) :: St) S := ev_go i78_27 rfl
theorem i78_30 : insAt 78 30 = some (.putfield 75, 3, (10, 0, 1, 0), 84) := rfl
theorem s78_30 {c : Nat → List AV → SS → Option Out} {l0 l1 l2 l3 l4 l5 l6 : Option AV} {j t : Nat} {x : Int32} {L2 : List (Nat × AV)} {St : List AV} {S : SS} : ev c 78 30 [l0, l1, l2, l3, l4, l5, l6] L2 (aI x :: aR (10, j, t) :: St) S = ev c 78 33 [l0, l1, l2, l3, l4, l5, l6] L2 St (setI S.1 (10, j, t) 0 x, S.2) := ev_go i78_30 rfl
theorem i78_33 : insAt 78 33 = some (.aload 6, 2, (0, 0, 0, 0), 0) := rfl
theorem s78_33 {c : Nat → List AV → SS → Option Out} {l0 l1 l2 l3 l4 l5 : Option AV} {o : OId} {L2 : List (Nat × AV)} {St : List AV} {S : SS} : ev c 78 33 [l0, l1, l2, l3, l4, l5, some (aR o)] L2 St S = ev c 78 35 [l0, l1, l2, l3, l4, l5, some (aR o)] L2 (aR o :: St) S := ev_go i78_33 rfl
theorem i78_35 : insAt 78 35 = some (.iload_n 1, 1, (0, 0, 0, 0), 0) := rfl
theorem s78_35 {c : Nat → List AV → SS → Option Out} {l0 l2 l3 l4 l5 l6 : Option AV} {x : Int32} {L2 : List (Nat × AV)} {St : List AV} {S : SS} : ev c 78 35 [l0, some (aI x), l2, l3, l4, l5, l6] L2 St S = ev c 78 36 [l0, some (aI x), l2, l3, l4, l5, l6] L2 (aI x :: St) S := ev_go i78_35 rfl
theorem i78_36 : insAt 78 36 = some (.putfield 78, 3, (10, 1, 1, 0), 96) := rfl
theorem s78_36 {c : Nat → List AV → SS → Option Out} {l0 l1 l2 l3 l4 l5 l6 : Option AV} {j t : Nat} {x : Int32} {L2 : List (Nat × AV)} {St : List AV} {S : SS} : ev c 78 36 [l0, l1, l2, l3, l4, l5, l6] L2 (aI x :: aR (10, j, t) :: St) S = ev c 78 39 [l0, l1, l2, l3, l4, l5, l6] L2 St (setI S.1 (10, j, t) 1 x, S.2) := ev_go i78_36 rfl
theorem i78_39 : insAt 78 39 = some (.aload 6, 2, (0, 0, 0, 0), 0) := rfl
theorem s78_39 {c : Nat → List AV → SS → Option Out} {l0 l1 l2 l3 l4 l5 : Option AV} {o : OId} {L2 : List (Nat × AV)} {St : List AV} {S : SS} : ev c 78 39 [l0, l1, l2, l3, l4, l5, some (aR o)] L2 St S = ev c 78 41 [l0, l1, l2, l3, l4, l5, some (aR o)] L2 (aR o :: St) S := ev_go i78_39 rfl
theorem i78_41 : insAt 78 41 = some (.iload_n 2, 1, (0, 0, 0, 0), 0) := rfl
theorem s78_41 {c : Nat → List AV → SS → Option Out} {l0 l1 l3 l4 l5 l6 : Option AV} {x : Int32} {L2 : List (Nat × AV)} {St : List AV} {S : SS} : ev c 78 41 [l0, l1, some (aI x), l3, l4, l5, l6] L2 St S = ev c 78 42 [l0, l1, some (aI x), l3, l4, l5, l6] L2 (aI x :: St) S := ev_go i78_41 rfl
theorem i78_42 : insAt 78 42 = some (.putfield 81, 3, (10, 2, 1, 0), 97) := rfl
theorem s78_42 {c : Nat → List AV → SS → Option Out} {l0 l1 l2 l3 l4 l5 l6 : Option AV} {j t : Nat} {x : Int32} {L2 : List (Nat × AV)} {St : List AV} {S : SS} : ev c 78 42 [l0, l1, l2, l3, l4, l5, l6] L2 (aI x :: aR (10, j, t) :: St) S = ev c 78 45 [l0, l1, l2, l3, l4, l5, l6] L2 St (setI S.1 (10, j, t) 2 x, S.2) := ev_go i78_42 rfl
theorem i78_45 : insAt 78 45 = some (.aload 6, 2, (0, 0, 0, 0), 0) := rfl
theorem s78_45 {c : Nat → List AV → SS → Option Out} {l0 l1 l2 l3 l4 l5 : Option AV} {o : OId} {L2 : List (Nat × AV)} {St : List AV} {S : SS} : ev c 78 45 [l0, l1, l2, l3, l4, l5, some (aR o)] L2 St S = ev c 78 47 [l0, l1, l2, l3, l4, l5, some (aR o)] L2 (aR o :: St) S := ev_go i78_45 rfl
theorem i78_47 : insAt 78 47 = some (.iload_n 3, 1, (0, 0, 0, 0), 0) := rfl
theorem s78_47 {c : Nat → List AV → SS → Option Out} {l0 l1 l2 l4 l5 l6 : Option AV} {x : Int32} {L2 : List (Nat × AV)} {St : List AV} {S : SS} : ev c 78 47 [l0, l1, l2, some (aI x), l4, l5, l6] L2 St S = ev c 78 48 [l0, l1, l2, some (aI x), l4, l5, l6] L2 (aI x :: St) S := ev_go i78_47 rfl
theorem i78_48 : insAt 78 48 = some (.putfield 84, 3, (10, 4, 1, 0), 204) := rfl
theorem s78_48 {c : Nat → List AV → SS → Option Out} {l0 l1 l2 l3 l4 l5 l6 : Option AV} {j t : Nat} {x : Int32} {L2 : List (Nat × AV)} {St : List AV} {S : SS} : ev c 78 48 [l0, l1, l2, l3, l4, l5, l6] L2 (aI x :: aR (10, j, t) :: St) S = ev c 78 51 [l0, l1, l2, l3, l4, l5, l6] L2 St (setI S.1 (10, j, t) 4 x, S.2) := ev_go i78_48 rfl
theorem i78_51 : insAt 78 51 = some (.aload 6, 2, (0, 0, 0, 0), 0) := rfl
theorem s78_51 {c : Nat → List AV → SS → Option Out} {l0 l1 l2 l3 l4 l5 : Option AV} {o : OId} {L2 : List (Nat × AV)} {St : List AV} {S : SS} : ev c 78 51 [l0, l1, l2, l3, l4, l5, some (aR o)] L2 St S = ev c 78 53 [l0, l1, l2, l3, l4, l5, some (aR o)] L2 (aR o :: St) S := ev_go i78_51 rfl
theorem i78_53 : insAt 78 53 = some (.iload 4, 2, (0, 0, 0, 0), 0) := rfl
theorem s78_53 {c : Nat → List AV → SS → Option Out} {l0 l1 l2 l3 l5 l6 : Option AV} {x : Int32} {L2 : List (Nat × AV)} {St : List AV} {S : SS} : ev c 78 53 [l0, l1, l2, l3, some (aI x), l5, l6] L2 St S = ev c 78 55 [l0, l1, l2, l3, some (aI x), l5, l6] L2 (aI x :: St) S := ev_go i78_53 rfl
theorem i78_55 : insAt 78 55 = some (.putfield 87, 3, (10, 5, 1, 0), 82) := rfl
theorem s78_55 {c : Nat → List AV → SS → Option Out} {l0 l1 l2 l3 l4 l5 l6 : Option AV} {j t : Nat} {x : Int32} {L2 : List (Nat × AV)} {St : List AV} {S : SS} : ev c 78 55 [l0, l1, l2, l3, l4, l5, l6] L2 (aI x :: aR (10, j, t) :: St) S = if x = 0 ∨ x = 1 then ev c 78 58 [l0, l1, l2, l3, l4, l5, l6] L2 St (setI S.1 (10, j, t) 5 x, S.2) else none := ev_if i78_55 rfl
theorem i78_58 : insAt 78 58 = some (.aload_n 0, 1, (0, 0, 0, 0), 0) := rfl
theorem s78_58 {c : Nat → List AV → SS → Option Out} {l1 l2 l3 l4 l5 l6 : Option AV} {o : OId} {L2 : List (Nat × AV)} {St : List AV} {S : SS} : ev c 78 58 [some (aR o), l1, l2, l3, l4, l5, l6] L2 St S = ev c 78 59 [some (aR o), l1, l2, l3, l4, l5, l6] L2 (aR o :: St) S := ev_go i78_58 rfl
theorem i78_59 : insAt 78 59 = some (.dup, 1, (0, 0, 0, 0), 0) := rfl
theorem s78_59 {c : Nat → List AV → SS → Option Out} {l0 l1 l2 l3 l4 l5 l6 : Option AV} {x : OId} {L2 : List (Nat × AV)} {St : List AV} {S : SS} : ev c 78 59 [l0, l1, l2, l3, l4, l5, l6] L2 (aR x :: St) S = ev c 78 60 [l0, l1, l2, l3, l4, l5, l6] L2 (aR x :: aR x :: St) S := ev_go i78_59 rfl
theorem i78_60 : insAt 78 60 = some (.getfield 33, 3, (4, 7, 0, 0), 28) := rfl
theorem s78_60 {c : Nat → List AV → SS → Option Out} {l0 l1 l2 l3 l4 l5 l6 : Option AV} {j t : Nat} {L2 : List (Nat × AV)} {St : List AV} {S : SS} : ev c 78 60 [l0, l1, l2, l3, l4, l5, l6] L2 (aR (4, j, t) :: St) S = ev c 78 63 [l0, l1, l2, l3, l4, l5, l6] L2 (aI (S.1 (4, j, t) 7) :: St) S := ev_go i78_60 rfl
theorem i78_63 : insAt 78 63 = some (.iconst 1, 1, (0, 0, 0, 0), 0) := rfl
theorem s78_63 {c : Nat → List AV → SS → Option Out} {l0 l1 l2 l3 l4 l5 l6 : Option AV} {L2 : List (Nat × AV)} {St : List AV} {S : SS} : ev c 78 63 [l0, l1, l2, l3, l4, l5, l6] L2 St S = ev c 78 64 [l0, l1, l2, l3, l4, l5, l6] L2 (aI 1 :: St) S := ev_go i78_63 rfl
theorem i78_64 : insAt 78 64 = some (.iadd, 1, (0, 0, 0, 0), 0) := rfl
theorem s78_64 {c : Nat → List AV → SS → Option Out} {l0 l1 l2 l3 l4 l5 l6 : Option AV} {x y : Int32} {L2 : List (Nat × AV)} {St : List AV} {S : SS} : ev c 78 64 [l0, l1, l2, l3, l4, l5, l6] L2 (aI y :: aI x :: St) S = ev c 78 65 [l0, l1, l2, l3, l4, l5, l6] L2 (aI (x + y) :: St) S := ev_go i78_64 rfl
theorem i78_65 : insAt 78 65 = some (.putfield 33, 3, (4, 7, 0, 0), 28) := rfl
theorem s78_65 {c : Nat → List AV → SS → Option Out} {l0 l1 l2 l3 l4 l5 l6 : Option AV} {j t : Nat} {x : Int32} {L2 : List (Nat × AV)} {St : List AV} {S : SS} : ev c 78 65 [l0, l1, l2, l3, l4, l5, l6] L2 (aI x :: aR (4, j, t) :: St) S = ev c 78 68 [l0, l1, l2, l3, l4, l5, l6] L2 St (setI S.1 (4, j, t) 7 x, S.2) := ev_go i78_65 rfl
theorem i78_68 : insAt 78 68 = some (.iload 5, 2, (0, 0, 0, 0), 0) := rfl
theorem s78_68 {c : Nat → List AV → SS → Option Out} {l0 l1 l2 l3 l4 l6 : Option AV} {x : Int32} {L2 : List (Nat × AV)} {St : List AV} {S : SS} : ev c 78 68 [l0, l1, l2, l3, l4, some (aI x), l6] L2 St S = ev c 78 70 [l0, l1, l2, l3, l4, some (aI x), l6] L2 (aI x :: St) S := ev_go i78_68 rfl
theorem i78_70 : insAt 78 70 = some (.ireturn, 1, (0, 0, 0, 0), 0) := rfl
theorem s78_70 {c : Nat → List AV → SS → Option Out} {l0 l1 l2 l3 l4 l5 l6 : Option AV} {x : Int32} {L2 : List (Nat × AV)} {S : SS} : ev c 78 70 [l0, l1, l2, l3, l4, l5, l6] L2 [aI x] S = some (.inl (some (aI x)), S) := ev_end i78_70 rfl
theorem m78 {d : Nat} {o : OId} {a0 : Int32} {a1 : Int32} {a2 : Int32} {a3 : Int32} {S : SS} : evm (d + 1) 78 [aR o, aI a0, aI a1, aI a2, aI a3] S = ev (evm d) 78 0 [some (aR o), some (aI a0), some (aI a1), some (aI a2), some (aI a3), none, none] [] [] S := evm_s (n := 7) rfl (Nat.le_of_ble_eq_true rfl) rfl rfl
/-! FrequencyOffice$Books.carryOut(LFrequencyOffice$Plan;I)V -/
theorem i79_0 : insAt 79 0 = some (.iconst 0, 1, (0, 0, 0, 0), 0) := rfl
theorem s79_0 {c : Nat → List AV → SS → Option Out} {l0 l1 l2 l3 : Option AV} {L2 : List (Nat × AV)} {St : List AV} {S : SS} : ev c 79 0 [l0, l1, l2, l3] L2 St S = ev c 79 1 [l0, l1, l2, l3] L2 (aI 0 :: St) S := ev_go i79_0 rfl
theorem i79_1 : insAt 79 1 = some (.istore_n 3, 1, (0, 0, 0, 0), 0) := rfl
theorem s79_1 {c : Nat → List AV → SS → Option Out} {l0 l1 l2 l3 : Option AV} {x : Int32} {L2 : List (Nat × AV)} {St : List AV} {S : SS} : ev c 79 1 [l0, l1, l2, l3] L2 (aI x :: St) S = ev c 79 2 [l0, l1, l2, some (aI x)] (kil L2 3) St S := ev_go i79_1 rfl
theorem i79_2 : insAt 79 2 = some (.iload_n 3, 1, (0, 0, 0, 0), 0) := rfl
theorem s79_2 {c : Nat → List AV → SS → Option Out} {l0 l1 l2 : Option AV} {x : Int32} {L2 : List (Nat × AV)} {St : List AV} {S : SS} : ev c 79 2 [l0, l1, l2, some (aI x)] L2 St S = ev c 79 3 [l0, l1, l2, some (aI x)] L2 (aI x :: St) S := ev_go i79_2 rfl
theorem i79_3 : insAt 79 3 = some (.aload_n 1, 1, (0, 0, 0, 0), 0) := rfl
theorem s79_3 {c : Nat → List AV → SS → Option Out} {l0 l2 l3 : Option AV} {o : OId} {L2 : List (Nat × AV)} {St : List AV} {S : SS} : ev c 79 3 [l0, some (aR o), l2, l3] L2 St S = ev c 79 4 [l0, some (aR o), l2, l3] L2 (aR o :: St) S := ev_go i79_3 rfl
theorem i79_4 : insAt 79 4 = some (.getfield 151, 3, (7, 0, 1, 0), 205) := rfl
theorem s79_4 {c : Nat → List AV → SS → Option Out} {l0 l1 l2 l3 : Option AV} {j t : Nat} {L2 : List (Nat × AV)} {St : List AV} {S : SS} : ev c 79 4 [l0, l1, l2, l3] L2 (aR (7, j, t) :: St) S = ev c 79 7 [l0, l1, l2, l3] L2 (aI (S.1 (7, j, t) 0) :: St) S := ev_go i79_4 rfl
theorem i79_7 : insAt 79 7 = some (.if_icmp .ge 36, 3, (0, 0, 0, 0), 0) := rfl
theorem s79_7 {c : Nat → List AV → SS → Option Out} {l0 l1 l2 l3 : Option AV} {x y : Int32} {L2 : List (Nat × AV)} {St : List AV} {S : SS} : ev c 79 7 [l0, l1, l2, l3] L2 (aI y :: aI x :: St) S = if y ≤ x then ev c 79 43 [l0, l1, l2, l3] L2 St S else ev c 79 10 [l0, l1, l2, l3] L2 St S := ev_br i79_7 rfl
theorem i79_10 : insAt 79 10 = some (.aload_n 0, 1, (0, 0, 0, 0), 0) := rfl
theorem s79_10 {c : Nat → List AV → SS → Option Out} {l1 l2 l3 : Option AV} {o : OId} {L2 : List (Nat × AV)} {St : List AV} {S : SS} : ev c 79 10 [some (aR o), l1, l2, l3] L2 St S = ev c 79 11 [some (aR o), l1, l2, l3] L2 (aR o :: St) S := ev_go i79_10 rfl
theorem i79_11 : insAt 79 11 = some (.aload_n 0, 1, (0, 0, 0, 0), 0) := rfl
theorem s79_11 {c : Nat → List AV → SS → Option Out} {l1 l2 l3 : Option AV} {o : OId} {L2 : List (Nat × AV)} {St : List AV} {S : SS} : ev c 79 11 [some (aR o), l1, l2, l3] L2 St S = ev c 79 12 [some (aR o), l1, l2, l3] L2 (aR o :: St) S := ev_go i79_11 rfl
theorem i79_12 : insAt 79 12 = some (.aload_n 1, 1, (0, 0, 0, 0), 0) := rfl
theorem s79_12 {c : Nat → List AV → SS → Option Out} {l0 l2 l3 : Option AV} {o : OId} {L2 : List (Nat × AV)} {St : List AV} {S : SS} : ev c 79 12 [l0, some (aR o), l2, l3] L2 St S = ev c 79 13 [l0, some (aR o), l2, l3] L2 (aR o :: St) S := ev_go i79_12 rfl
theorem i79_13 : insAt 79 13 = some (.getfield 154, 3, (7, 2, 1, 0), 206) := rfl
theorem s79_13 {c : Nat → List AV → SS → Option Out} {l0 l1 l2 l3 : Option AV} {j t : Nat} {L2 : List (Nat × AV)} {St : List AV} {S : SS} : ev c 79 13 [l0, l1, l2, l3] L2 (aR (7, j, t) :: St) S = ev c 79 16 [l0, l1, l2, l3] L2 (S.2.2.1 (7, j, t) 2 :: St) S := ev_go i79_13 rfl
theorem i79_16 : insAt 79 16 = some (.iload_n 3, 1, (0, 0, 0, 0), 0) := rfl
theorem s79_16 {c : Nat → List AV → SS → Option Out} {l0 l1 l2 : Option AV} {x : Int32} {L2 : List (Nat × AV)} {St : List AV} {S : SS} : ev c 79 16 [l0, l1, l2, some (aI x)] L2 St S = ev c 79 17 [l0, l1, l2, some (aI x)] L2 (aI x :: St) S := ev_go i79_16 rfl
theorem i79_17 : insAt 79 17 = some (.invokestatic 119, 3, (31, 2, 1, 0), 103) := rfl
theorem s79_17 {c : Nat → List AV → SS → Option Out} {l0 l1 l2 l3 : Option AV} {t0 t1 : AV} {a0 : OId} {a1 : Int32} {L2 : List (Nat × AV)} {S : SS} : ev c 79 17 [l0, l1, l2, l3] L2 [aI a1, aR a0, t0, t1] S = ck (c 31 [aR a0, aI a1] S) (fun v S' => ev c 79 20 [l0, l1, l2, l3] L2 (v.toList ++ [t0, t1]) S') := ev_call i79_17 rfl
theorem i79_20 : insAt 79 20 = some (.invokevirtual 157, 3, (19, 1, 2, 4), 207) := rfl
theorem s79_20 {c : Nat → List AV → SS → Option Out} {l0 l1 l2 l3 : Option AV} {t0 : AV} {a0 : Int32} {j t : Nat} {L2 : List (Nat × AV)} {S : SS} : ev c 79 20 [l0, l1, l2, l3] L2 [aI a0, aR (4, j, t), t0] S = ck (c 19 [aR (4, j, t), aI a0] S) (fun v S' => ev c 79 23 [l0, l1, l2, l3] L2 (v.toList ++ [t0]) S') := ev_call i79_20 rfl
theorem i79_23 : insAt 79 23 = some (.invokevirtual 58, 3, (17, 1, 2, 4), 81) := rfl
theorem s79_23 {c : Nat → List AV → SS → Option Out} {l0 l1 l2 l3 : Option AV} {a0 : Int32} {j t : Nat} {L2 : List (Nat × AV)} {S : SS} : ev c 79 23 [l0, l1, l2, l3] L2 [aI a0, aR (4, j, t)] S = ck (c 17 [aR (4, j, t), aI a0] S) (fun v S' => ev c 79 26 [l0, l1, l2, l3] L2 (v.toList ++ []) S') := ev_call i79_23 rfl
theorem i79_26 : insAt 79 26 = some (.aload_n 1, 1, (0, 0, 0, 0), 0) := rfl
theorem s79_26 {c : Nat → List AV → SS → Option Out} {l0 l2 l3 : Option AV} {o : OId} {L2 : List (Nat × AV)} {St : List AV} {S : SS} : ev c 79 26 [l0, some (aR o), l2, l3] L2 St S = ev c 79 27 [l0, some (aR o), l2, l3] L2 (aR o :: St) S := ev_go i79_26 rfl
theorem i79_27 : insAt 79 27 = some (.getfield 160, 3, (7, 4, 1, 0), 208) := rfl
theorem s79_27 {c : Nat → List AV → SS → Option Out} {l0 l1 l2 l3 : Option AV} {j t : Nat} {L2 : List (Nat × AV)} {St : List AV} {S : SS} : ev c 79 27 [l0, l1, l2, l3] L2 (aR (7, j, t) :: St) S = ev c 79 30 [l0, l1, l2, l3] L2 (S.2.2.1 (7, j, t) 4 :: St) S := ev_go i79_27 rfl
theorem i79_30 : insAt 79 30 = some (.iload_n 3, 1, (0, 0, 0, 0), 0) := rfl
theorem s79_30 {c : Nat → List AV → SS → Option Out} {l0 l1 l2 : Option AV} {x : Int32} {L2 : List (Nat × AV)} {St : List AV} {S : SS} : ev c 79 30 [l0, l1, l2, some (aI x)] L2 St S = ev c 79 31 [l0, l1, l2, some (aI x)] L2 (aI x :: St) S := ev_go i79_30 rfl
theorem i79_31 : insAt 79 31 = some (.invokestatic 119, 3, (31, 2, 1, 0), 103) := rfl
theorem s79_31 {c : Nat → List AV → SS → Option Out} {l0 l1 l2 l3 : Option AV} {t0 : AV} {a0 : OId} {a1 : Int32} {L2 : List (Nat × AV)} {S : SS} : ev c 79 31 [l0, l1, l2, l3] L2 [aI a1, aR a0, t0] S = ck (c 31 [aR a0, aI a1] S) (fun v S' => ev c 79 34 [l0, l1, l2, l3] L2 (v.toList ++ [t0]) S') := ev_call i79_31 rfl
theorem i79_34 : insAt 79 34 = some (.putfield 126, 3, (10, 3, 1, 0), 91) := rfl
theorem s79_34 {c : Nat → List AV → SS → Option Out} {l0 l1 l2 l3 : Option AV} {j t : Nat} {x : Int32} {L2 : List (Nat × AV)} {St : List AV} {S : SS} : ev c 79 34 [l0, l1, l2, l3] L2 (aI x :: aR (10, j, t) :: St) S = ev c 79 37 [l0, l1, l2, l3] L2 St (setI S.1 (10, j, t) 3 x, S.2) := ev_go i79_34 rfl
theorem i79_37 : insAt 79 37 = some (.iinc 3 1, 3, (0, 0, 0, 0), 0) := rfl
theorem s79_37 {c : Nat → List AV → SS → Option Out} {l0 l1 l2 : Option AV} {x : Int32} {L2 : List (Nat × AV)} {St : List AV} {S : SS} : ev c 79 37 [l0, l1, l2, some (aI x)] L2 St S = ev c 79 40 [l0, l1, l2, some (aI (x + 1))] (kil L2 3) St S := ev_go i79_37 rfl
theorem i79_40 : insAt 79 40 = some (.goto (-38), 3, (0, 0, 0, 0), 0) := rfl
theorem s79_40 {c : Nat → List AV → SS → Option Out} {l0 l1 l2 l3 : Option AV} {L2 : List (Nat × AV)} {St : List AV} {S : SS} : ev c 79 40 [l0, l1, l2, l3] L2 St S = ev c 79 2 [l0, l1, l2, l3] L2 St S := ev_go i79_40 rfl
theorem i79_43 : insAt 79 43 = some (.aload_n 0, 1, (0, 0, 0, 0), 0) := rfl
theorem s79_43 {c : Nat → List AV → SS → Option Out} {l1 l2 l3 : Option AV} {o : OId} {L2 : List (Nat × AV)} {St : List AV} {S : SS} : ev c 79 43 [some (aR o), l1, l2, l3] L2 St S = ev c 79 44 [some (aR o), l1, l2, l3] L2 (aR o :: St) S := ev_go i79_43 rfl
theorem i79_44 : insAt 79 44 = some (.iload_n 2, 1, (0, 0, 0, 0), 0) := rfl
theorem s79_44 {c : Nat → List AV → SS → Option Out} {l0 l1 l3 : Option AV} {x : Int32} {L2 : List (Nat × AV)} {St : List AV} {S : SS} : ev c 79 44 [l0, l1, some (aI x), l3] L2 St S = ev c 79 45 [l0, l1, some (aI x), l3] L2 (aI x :: St) S := ev_go i79_44 rfl
theorem i79_45 : insAt 79 45 = some (.invokevirtual 58, 3, (17, 1, 2, 4), 81) := rfl
theorem s79_45 {c : Nat → List AV → SS → Option Out} {l0 l1 l2 l3 : Option AV} {a0 : Int32} {j t : Nat} {L2 : List (Nat × AV)} {S : SS} : ev c 79 45 [l0, l1, l2, l3] L2 [aI a0, aR (4, j, t)] S = ck (c 17 [aR (4, j, t), aI a0] S) (fun v S' => ev c 79 48 [l0, l1, l2, l3] L2 (v.toList ++ []) S') := ev_call i79_45 rfl
theorem i79_48 : insAt 79 48 = some (.aload_n 1, 1, (0, 0, 0, 0), 0) := rfl
theorem s79_48 {c : Nat → List AV → SS → Option Out} {l0 l2 l3 : Option AV} {o : OId} {L2 : List (Nat × AV)} {St : List AV} {S : SS} : ev c 79 48 [l0, some (aR o), l2, l3] L2 St S = ev c 79 49 [l0, some (aR o), l2, l3] L2 (aR o :: St) S := ev_go i79_48 rfl
theorem i79_49 : insAt 79 49 = some (.getfield 163, 3, (7, 1, 1, 0), 209) := rfl
theorem s79_49 {c : Nat → List AV → SS → Option Out} {l0 l1 l2 l3 : Option AV} {j t : Nat} {L2 : List (Nat × AV)} {St : List AV} {S : SS} : ev c 79 49 [l0, l1, l2, l3] L2 (aR (7, j, t) :: St) S = ev c 79 52 [l0, l1, l2, l3] L2 (aI (S.1 (7, j, t) 1) :: St) S := ev_go i79_49 rfl
theorem i79_52 : insAt 79 52 = some (.putfield 126, 3, (10, 3, 1, 0), 91) := rfl
theorem s79_52 {c : Nat → List AV → SS → Option Out} {l0 l1 l2 l3 : Option AV} {j t : Nat} {x : Int32} {L2 : List (Nat × AV)} {St : List AV} {S : SS} : ev c 79 52 [l0, l1, l2, l3] L2 (aI x :: aR (10, j, t) :: St) S = ev c 79 55 [l0, l1, l2, l3] L2 St (setI S.1 (10, j, t) 3 x, S.2) := ev_go i79_52 rfl
theorem i79_55 : insAt 79 55 = some (.aload_n 0, 1, (0, 0, 0, 0), 0) := rfl
theorem s79_55 {c : Nat → List AV → SS → Option Out} {l1 l2 l3 : Option AV} {o : OId} {L2 : List (Nat × AV)} {St : List AV} {S : SS} : ev c 79 55 [some (aR o), l1, l2, l3] L2 St S = ev c 79 56 [some (aR o), l1, l2, l3] L2 (aR o :: St) S := ev_go i79_55 rfl
theorem i79_56 : insAt 79 56 = some (.getfield 54, 3, (4, 11, 0, 0), 36) := rfl
theorem s79_56 {c : Nat → List AV → SS → Option Out} {l0 l1 l2 l3 : Option AV} {j t : Nat} {L2 : List (Nat × AV)} {St : List AV} {S : SS} : ev c 79 56 [l0, l1, l2, l3] L2 (aR (4, j, t) :: St) S = ev c 79 59 [l0, l1, l2, l3] L2 (S.2.2.1 (4, j, t) 11 :: St) S := ev_go i79_56 rfl
theorem i79_59 : insAt 79 59 = some (.aload_n 1, 1, (0, 0, 0, 0), 0) := rfl
theorem s79_59 {c : Nat → List AV → SS → Option Out} {l0 l2 l3 : Option AV} {o : OId} {L2 : List (Nat × AV)} {St : List AV} {S : SS} : ev c 79 59 [l0, some (aR o), l2, l3] L2 St S = ev c 79 60 [l0, some (aR o), l2, l3] L2 (aR o :: St) S := ev_go i79_59 rfl
theorem i79_60 : insAt 79 60 = some (.invokevirtual 72, 3, (55, 1, 3, 7), 148) := rfl
theorem s79_60 {c : Nat → List AV → SS → Option Out} {l0 l1 l2 l3 : Option AV} {a0 : OId} {j t : Nat} {L2 : List (Nat × AV)} {S : SS} : ev c 79 60 [l0, l1, l2, l3] L2 [aR a0, aR (7, j, t)] S = ck (c 55 [aR (7, j, t), aR a0] S) (fun v S' => ev c 79 63 [l0, l1, l2, l3] L2 (v.toList ++ []) S') := ev_call i79_60 rfl
theorem i79_63 : insAt 79 63 = some (.aload_n 0, 1, (0, 0, 0, 0), 0) := rfl
theorem s79_63 {c : Nat → List AV → SS → Option Out} {l1 l2 l3 : Option AV} {o : OId} {L2 : List (Nat × AV)} {St : List AV} {S : SS} : ev c 79 63 [some (aR o), l1, l2, l3] L2 St S = ev c 79 64 [some (aR o), l1, l2, l3] L2 (aR o :: St) S := ev_go i79_63 rfl
theorem i79_64 : insAt 79 64 = some (.getfield 33, 3, (4, 7, 0, 0), 28) := rfl
theorem s79_64 {c : Nat → List AV → SS → Option Out} {l0 l1 l2 l3 : Option AV} {j t : Nat} {L2 : List (Nat × AV)} {St : List AV} {S : SS} : ev c 79 64 [l0, l1, l2, l3] L2 (aR (4, j, t) :: St) S = ev c 79 67 [l0, l1, l2, l3] L2 (aI (S.1 (4, j, t) 7) :: St) S := ev_go i79_64 rfl
theorem i79_67 : insAt 79 67 = some (.iconst 1, 1, (0, 0, 0, 0), 0) := rfl
theorem s79_67 {c : Nat → List AV → SS → Option Out} {l0 l1 l2 l3 : Option AV} {L2 : List (Nat × AV)} {St : List AV} {S : SS} : ev c 79 67 [l0, l1, l2, l3] L2 St S = ev c 79 68 [l0, l1, l2, l3] L2 (aI 1 :: St) S := ev_go i79_67 rfl
theorem i79_68 : insAt 79 68 = some (.isub, 1, (0, 0, 0, 0), 0) := rfl
theorem s79_68 {c : Nat → List AV → SS → Option Out} {l0 l1 l2 l3 : Option AV} {x y : Int32} {L2 : List (Nat × AV)} {St : List AV} {S : SS} : ev c 79 68 [l0, l1, l2, l3] L2 (aI y :: aI x :: St) S = ev c 79 69 [l0, l1, l2, l3] L2 (aI (x - y) :: St) S := ev_go i79_68 rfl
theorem i79_69 : insAt 79 69 = some (.istore_n 3, 1, (0, 0, 0, 0), 0) := rfl
theorem s79_69 {c : Nat → List AV → SS → Option Out} {l0 l1 l2 l3 : Option AV} {x : Int32} {L2 : List (Nat × AV)} {St : List AV} {S : SS} : ev c 79 69 [l0, l1, l2, l3] L2 (aI x :: St) S = ev c 79 70 [l0, l1, l2, some (aI x)] (kil L2 3) St S := ev_go i79_69 rfl
theorem i79_70 : insAt 79 70 = some (.iload_n 3, 1, (0, 0, 0, 0), 0) := rfl
theorem s79_70 {c : Nat → List AV → SS → Option Out} {l0 l1 l2 : Option AV} {x : Int32} {L2 : List (Nat × AV)} {St : List AV} {S : SS} : ev c 79 70 [l0, l1, l2, some (aI x)] L2 St S = ev c 79 71 [l0, l1, l2, some (aI x)] L2 (aI x :: St) S := ev_go i79_70 rfl
theorem i79_71 : insAt 79 71 = some (.ifCond .lt 43, 3, (0, 0, 0, 0), 0) := rfl
theorem s79_71 {c : Nat → List AV → SS → Option Out} {l0 l1 l2 l3 : Option AV} {x : Int32} {L2 : List (Nat × AV)} {St : List AV} {S : SS} : ev c 79 71 [l0, l1, l2, l3] L2 (aI x :: St) S = if x < 0 then ev c 79 114 [l0, l1, l2, l3] L2 St S else ev c 79 74 [l0, l1, l2, l3] L2 St S := ev_br i79_71 rfl
theorem i79_74 : insAt 79 74 = some (.aload_n 0, 1, (0, 0, 0, 0), 0) := rfl
theorem s79_74 {c : Nat → List AV → SS → Option Out} {l1 l2 l3 : Option AV} {o : OId} {L2 : List (Nat × AV)} {St : List AV} {S : SS} : ev c 79 74 [some (aR o), l1, l2, l3] L2 St S = ev c 79 75 [some (aR o), l1, l2, l3] L2 (aR o :: St) S := ev_go i79_74 rfl
theorem i79_75 : insAt 79 75 = some (.iload_n 3, 1, (0, 0, 0, 0), 0) := rfl
theorem s79_75 {c : Nat → List AV → SS → Option Out} {l0 l1 l2 : Option AV} {x : Int32} {L2 : List (Nat × AV)} {St : List AV} {S : SS} : ev c 79 75 [l0, l1, l2, some (aI x)] L2 St S = ev c 79 76 [l0, l1, l2, some (aI x)] L2 (aI x :: St) S := ev_go i79_75 rfl
theorem i79_76 : insAt 79 76 = some (.invokevirtual 58, 3, (17, 1, 2, 4), 81) := rfl
theorem s79_76 {c : Nat → List AV → SS → Option Out} {l0 l1 l2 l3 : Option AV} {a0 : Int32} {j t : Nat} {L2 : List (Nat × AV)} {S : SS} : ev c 79 76 [l0, l1, l2, l3] L2 [aI a0, aR (4, j, t)] S = ck (c 17 [aR (4, j, t), aI a0] S) (fun v S' => ev c 79 79 [l0, l1, l2, l3] L2 (v.toList ++ []) S') := ev_call i79_76 rfl
theorem i79_79 : insAt 79 79 = some (.getfield 87, 3, (10, 5, 1, 0), 82) := rfl
theorem s79_79 {c : Nat → List AV → SS → Option Out} {l0 l1 l2 l3 : Option AV} {j t : Nat} {L2 : List (Nat × AV)} {St : List AV} {S : SS} : ev c 79 79 [l0, l1, l2, l3] L2 (aR (10, j, t) :: St) S = ev c 79 82 [l0, l1, l2, l3] L2 (aI (bb (S.1 (10, j, t) 5)) :: St) S := ev_go i79_79 rfl
theorem i79_82 : insAt 79 82 = some (.ifCond .eq 26, 3, (0, 0, 0, 0), 0) := rfl
theorem s79_82 {c : Nat → List AV → SS → Option Out} {l0 l1 l2 l3 : Option AV} {x : Int32} {L2 : List (Nat × AV)} {St : List AV} {S : SS} : ev c 79 82 [l0, l1, l2, l3] L2 (aI x :: St) S = if x = 0 then ev c 79 108 [l0, l1, l2, l3] L2 St S else ev c 79 85 [l0, l1, l2, l3] L2 St S := ev_br i79_82 rfl
theorem i79_85 : insAt 79 85 = some (.aload_n 0, 1, (0, 0, 0, 0), 0) := rfl
theorem s79_85 {c : Nat → List AV → SS → Option Out} {l1 l2 l3 : Option AV} {o : OId} {L2 : List (Nat × AV)} {St : List AV} {S : SS} : ev c 79 85 [some (aR o), l1, l2, l3] L2 St S = ev c 79 86 [some (aR o), l1, l2, l3] L2 (aR o :: St) S := ev_go i79_85 rfl
theorem i79_86 : insAt 79 86 = some (.iload_n 3, 1, (0, 0, 0, 0), 0) := rfl
theorem s79_86 {c : Nat → List AV → SS → Option Out} {l0 l1 l2 : Option AV} {x : Int32} {L2 : List (Nat × AV)} {St : List AV} {S : SS} : ev c 79 86 [l0, l1, l2, some (aI x)] L2 St S = ev c 79 87 [l0, l1, l2, some (aI x)] L2 (aI x :: St) S := ev_go i79_86 rfl
theorem i79_87 : insAt 79 87 = some (.invokevirtual 164, 3, (80, 1, 2, 4), 210) := rfl
theorem s79_87 {c : Nat → List AV → SS → Option Out} {l0 l1 l2 l3 : Option AV} {a0 : Int32} {j t : Nat} {L2 : List (Nat × AV)} {S : SS} : ev c 79 87 [l0, l1, l2, l3] L2 [aI a0, aR (4, j, t)] S = ck (c 80 [aR (4, j, t), aI a0] S) (fun v S' => ev c 79 90 [l0, l1, l2, l3] L2 (v.toList ++ []) S') := ev_call i79_87 rfl
theorem i79_90 : insAt 79 90 = some (.ifCond .eq 18, 3, (0, 0, 0, 0), 0) := rfl
theorem s79_90 {c : Nat → List AV → SS → Option Out} {l0 l1 l2 l3 : Option AV} {x : Int32} {L2 : List (Nat × AV)} {St : List AV} {S : SS} : ev c 79 90 [l0, l1, l2, l3] L2 (aI x :: St) S = if x = 0 then ev c 79 108 [l0, l1, l2, l3] L2 St S else ev c 79 93 [l0, l1, l2, l3] L2 St S := ev_br i79_90 rfl
theorem i79_93 : insAt 79 93 = some (.aload_n 0, 1, (0, 0, 0, 0), 0) := rfl
theorem s79_93 {c : Nat → List AV → SS → Option Out} {l1 l2 l3 : Option AV} {o : OId} {L2 : List (Nat × AV)} {St : List AV} {S : SS} : ev c 79 93 [some (aR o), l1, l2, l3] L2 St S = ev c 79 94 [some (aR o), l1, l2, l3] L2 (aR o :: St) S := ev_go i79_93 rfl
theorem i79_94 : insAt 79 94 = some (.iload_n 3, 1, (0, 0, 0, 0), 0) := rfl
theorem s79_94 {c : Nat → List AV → SS → Option Out} {l0 l1 l2 : Option AV} {x : Int32} {L2 : List (Nat × AV)} {St : List AV} {S : SS} : ev c 79 94 [l0, l1, l2, some (aI x)] L2 St S = ev c 79 95 [l0, l1, l2, some (aI x)] L2 (aI x :: St) S := ev_go i79_94 rfl
theorem i79_95 : insAt 79 95 = some (.invokevirtual 106, 3, (81, 1, 2, 4), 211) := rfl
theorem s79_95 {c : Nat → List AV → SS → Option Out} {l0 l1 l2 l3 : Option AV} {a0 : Int32} {j t : Nat} {L2 : List (Nat × AV)} {S : SS} : ev c 79 95 [l0, l1, l2, l3] L2 [aI a0, aR (4, j, t)] S = ck (c 81 [aR (4, j, t), aI a0] S) (fun v S' => ev c 79 98 [l0, l1, l2, l3] L2 (v.toList ++ []) S') := ev_call i79_95 rfl
theorem i79_98 : insAt 79 98 = some (.aload_n 0, 1, (0, 0, 0, 0), 0) := rfl
theorem s79_98 {c : Nat → List AV → SS → Option Out} {l1 l2 l3 : Option AV} {o : OId} {L2 : List (Nat × AV)} {St : List AV} {S : SS} : ev c 79 98 [some (aR o), l1, l2, l3] L2 St S = ev c 79 99 [some (aR o), l1, l2, l3] L2 (aR o :: St) S := ev_go i79_98 rfl
theorem i79_99 : insAt 79 99 = some (.dup, 1, (0, 0, 0, 0), 0) := rfl
theorem s79_99 {c : Nat → List AV → SS → Option Out} {l0 l1 l2 l3 : Option AV} {x : OId} {L2 : List (Nat × AV)} {St : List AV} {S : SS} : ev c 79 99 [l0, l1, l2, l3] L2 (aR x :: St) S = ev c 79 100 [l0, l1, l2, l3] L2 (aR x :: aR x :: St) S := ev_go i79_99 rfl
theorem i79_100 : insAt 79 100 = some (.getfield 30, 3, (4, 6, 0, 0), 27) := rfl
theorem s79_100 {c : Nat → List AV → SS → Option Out} {l0 l1 l2 l3 : Option AV} {j t : Nat} {L2 : List (Nat × AV)} {St : List AV} {S : SS} : ev c 79 100 [l0, l1, l2, l3] L2 (aR (4, j, t) :: St) S = ev c 79 103 [l0, l1, l2, l3] L2 (aI (S.1 (4, j, t) 6) :: St) S := ev_go i79_100 rfl
theorem i79_103 : insAt 79 103 = some (.iconst 1, 1, (0, 0, 0, 0), 0) := rfl
theorem s79_103 {c : Nat → List AV → SS → Option Out} {l0 l1 l2 l3 : Option AV} {L2 : List (Nat × AV)} {St : List AV} {S : SS} : ev c 79 103 [l0, l1, l2, l3] L2 St S = ev c 79 104 [l0, l1, l2, l3] L2 (aI 1 :: St) S := ev_go i79_103 rfl
theorem i79_104 : insAt 79 104 = some (.iadd, 1, (0, 0, 0, 0), 0) := rfl
theorem s79_104 {c : Nat → List AV → SS → Option Out} {l0 l1 l2 l3 : Option AV} {x y : Int32} {L2 : List (Nat × AV)} {St : List AV} {S : SS} : ev c 79 104 [l0, l1, l2, l3] L2 (aI y :: aI x :: St) S = ev c 79 105 [l0, l1, l2, l3] L2 (aI (x + y) :: St) S := ev_go i79_104 rfl
theorem i79_105 : insAt 79 105 = some (.putfield 30, 3, (4, 6, 0, 0), 27) := rfl
theorem s79_105 {c : Nat → List AV → SS → Option Out} {l0 l1 l2 l3 : Option AV} {j t : Nat} {x : Int32} {L2 : List (Nat × AV)} {St : List AV} {S : SS} : ev c 79 105 [l0, l1, l2, l3] L2 (aI x :: aR (4, j, t) :: St) S = ev c 79 108 [l0, l1, l2, l3] L2 St (setI S.1 (4, j, t) 6 x, S.2) := ev_go i79_105 rfl
theorem i79_108 : insAt 79 108 = some (.iinc 3 (-1), 3, (0, 0, 0, 0), 0) := rfl
theorem s79_108 {c : Nat → List AV → SS → Option Out} {l0 l1 l2 : Option AV} {x : Int32} {L2 : List (Nat × AV)} {St : List AV} {S : SS} : ev c 79 108 [l0, l1, l2, some (aI x)] L2 St S = ev c 79 111 [l0, l1, l2, some (aI (x + (-1)))] (kil L2 3) St S := ev_go i79_108 rfl
theorem i79_111 : insAt 79 111 = some (.goto (-41), 3, (0, 0, 0, 0), 0) := rfl
theorem s79_111 {c : Nat → List AV → SS → Option Out} {l0 l1 l2 l3 : Option AV} {L2 : List (Nat × AV)} {St : List AV} {S : SS} : ev c 79 111 [l0, l1, l2, l3] L2 St S = ev c 79 70 [l0, l1, l2, l3] L2 St S := ev_go i79_111 rfl
theorem i79_114 : insAt 79 114 = some (.return_, 1, (0, 0, 0, 0), 0) := rfl
theorem s79_114 {c : Nat → List AV → SS → Option Out} {l0 l1 l2 l3 : Option AV} {L2 : List (Nat × AV)} {S : SS} : ev c 79 114 [l0, l1, l2, l3] L2 [] S = some (.inl none, S) := ev_end i79_114 rfl
theorem m79 {d : Nat} {o : OId} {a0 : OId} {a1 : Int32} {S : SS} : evm (d + 1) 79 [aR o, aR a0, aI a1] S = ev (evm d) 79 0 [some (aR o), some (aR a0), some (aI a1), none] [] [] S := evm_s (n := 4) rfl (Nat.le_of_ble_eq_true rfl) rfl rfl
/-! FrequencyOffice$Books.conflictsWithLicensed(I)Z -/
theorem i80_0 : insAt 80 0 = some (.iconst 0, 1, (0, 0, 0, 0), 0) := rfl
theorem s80_0 {c : Nat → List AV → SS → Option Out} {l0 l1 l2 : Option AV} {L2 : List (Nat × AV)} {St : List AV} {S : SS} : ev c 80 0 [l0, l1, l2] L2 St S = ev c 80 1 [l0, l1, l2] L2 (aI 0 :: St) S := ev_go i80_0 rfl
theorem i80_1 : insAt 80 1 = some (.istore_n 2, 1, (0, 0, 0, 0), 0) := rfl
theorem s80_1 {c : Nat → List AV → SS → Option Out} {l0 l1 l2 : Option AV} {x : Int32} {L2 : List (Nat × AV)} {St : List AV} {S : SS} : ev c 80 1 [l0, l1, l2] L2 (aI x :: St) S = ev c 80 2 [l0, l1, some (aI x)] (kil L2 2) St S := ev_go i80_1 rfl
theorem i80_2 : insAt 80 2 = some (.iload_n 2, 1, (0, 0, 0, 0), 0) := rfl
theorem s80_2 {c : Nat → List AV → SS → Option Out} {l0 l1 : Option AV} {x : Int32} {L2 : List (Nat × AV)} {St : List AV} {S : SS} : ev c 80 2 [l0, l1, some (aI x)] L2 St S = ev c 80 3 [l0, l1, some (aI x)] L2 (aI x :: St) S := ev_go i80_2 rfl
theorem i80_3 : insAt 80 3 = some (.aload_n 0, 1, (0, 0, 0, 0), 0) := rfl
theorem s80_3 {c : Nat → List AV → SS → Option Out} {l1 l2 : Option AV} {o : OId} {L2 : List (Nat × AV)} {St : List AV} {S : SS} : ev c 80 3 [some (aR o), l1, l2] L2 St S = ev c 80 4 [some (aR o), l1, l2] L2 (aR o :: St) S := ev_go i80_3 rfl
theorem i80_4 : insAt 80 4 = some (.getfield 33, 3, (4, 7, 0, 0), 28) := rfl
theorem s80_4 {c : Nat → List AV → SS → Option Out} {l0 l1 l2 : Option AV} {j t : Nat} {L2 : List (Nat × AV)} {St : List AV} {S : SS} : ev c 80 4 [l0, l1, l2] L2 (aR (4, j, t) :: St) S = ev c 80 7 [l0, l1, l2] L2 (aI (S.1 (4, j, t) 7) :: St) S := ev_go i80_4 rfl
theorem i80_7 : insAt 80 7 = some (.if_icmp .ge 36, 3, (0, 0, 0, 0), 0) := rfl
theorem s80_7 {c : Nat → List AV → SS → Option Out} {l0 l1 l2 : Option AV} {x y : Int32} {L2 : List (Nat × AV)} {St : List AV} {S : SS} : ev c 80 7 [l0, l1, l2] L2 (aI y :: aI x :: St) S = if y ≤ x then ev c 80 43 [l0, l1, l2] L2 St S else ev c 80 10 [l0, l1, l2] L2 St S := ev_br i80_7 rfl
theorem i80_10 : insAt 80 10 = some (.iload_n 2, 1, (0, 0, 0, 0), 0) := rfl
theorem s80_10 {c : Nat → List AV → SS → Option Out} {l0 l1 : Option AV} {x : Int32} {L2 : List (Nat × AV)} {St : List AV} {S : SS} : ev c 80 10 [l0, l1, some (aI x)] L2 St S = ev c 80 11 [l0, l1, some (aI x)] L2 (aI x :: St) S := ev_go i80_10 rfl
theorem i80_11 : insAt 80 11 = some (.iload_n 1, 1, (0, 0, 0, 0), 0) := rfl
theorem s80_11 {c : Nat → List AV → SS → Option Out} {l0 l2 : Option AV} {x : Int32} {L2 : List (Nat × AV)} {St : List AV} {S : SS} : ev c 80 11 [l0, some (aI x), l2] L2 St S = ev c 80 12 [l0, some (aI x), l2] L2 (aI x :: St) S := ev_go i80_11 rfl
theorem i80_12 : insAt 80 12 = some (.if_icmp .eq 25, 3, (0, 0, 0, 0), 0) := rfl
theorem s80_12 {c : Nat → List AV → SS → Option Out} {l0 l1 l2 : Option AV} {x y : Int32} {L2 : List (Nat × AV)} {St : List AV} {S : SS} : ev c 80 12 [l0, l1, l2] L2 (aI y :: aI x :: St) S = if x = y then ev c 80 37 [l0, l1, l2] L2 St S else ev c 80 15 [l0, l1, l2] L2 St S := ev_br i80_12 rfl
theorem i80_15 : insAt 80 15 = some (.aload_n 0, 1, (0, 0, 0, 0), 0) := rfl
theorem s80_15 {c : Nat → List AV → SS → Option Out} {l1 l2 : Option AV} {o : OId} {L2 : List (Nat × AV)} {St : List AV} {S : SS} : ev c 80 15 [some (aR o), l1, l2] L2 St S = ev c 80 16 [some (aR o), l1, l2] L2 (aR o :: St) S := ev_go i80_15 rfl
theorem i80_16 : insAt 80 16 = some (.iload_n 2, 1, (0, 0, 0, 0), 0) := rfl
theorem s80_16 {c : Nat → List AV → SS → Option Out} {l0 l1 : Option AV} {x : Int32} {L2 : List (Nat × AV)} {St : List AV} {S : SS} : ev c 80 16 [l0, l1, some (aI x)] L2 St S = ev c 80 17 [l0, l1, some (aI x)] L2 (aI x :: St) S := ev_go i80_16 rfl
theorem i80_17 : insAt 80 17 = some (.invokevirtual 58, 3, (17, 1, 2, 4), 81) := rfl
theorem s80_17 {c : Nat → List AV → SS → Option Out} {l0 l1 l2 : Option AV} {a0 : Int32} {j t : Nat} {L2 : List (Nat × AV)} {S : SS} : ev c 80 17 [l0, l1, l2] L2 [aI a0, aR (4, j, t)] S = ck (c 17 [aR (4, j, t), aI a0] S) (fun v S' => ev c 80 20 [l0, l1, l2] L2 (v.toList ++ []) S') := ev_call i80_17 rfl
theorem i80_20 : insAt 80 20 = some (.getfield 87, 3, (10, 5, 1, 0), 82) := rfl
theorem s80_20 {c : Nat → List AV → SS → Option Out} {l0 l1 l2 : Option AV} {j t : Nat} {L2 : List (Nat × AV)} {St : List AV} {S : SS} : ev c 80 20 [l0, l1, l2] L2 (aR (10, j, t) :: St) S = ev c 80 23 [l0, l1, l2] L2 (aI (bb (S.1 (10, j, t) 5)) :: St) S := ev_go i80_20 rfl
theorem i80_23 : insAt 80 23 = some (.ifCond .ne 14, 3, (0, 0, 0, 0), 0) := rfl
theorem s80_23 {c : Nat → List AV → SS → Option Out} {l0 l1 l2 : Option AV} {x : Int32} {L2 : List (Nat × AV)} {St : List AV} {S : SS} : ev c 80 23 [l0, l1, l2] L2 (aI x :: St) S = if x = 0 then ev c 80 26 [l0, l1, l2] L2 St S else ev c 80 37 [l0, l1, l2] L2 St S := (ev_br i80_23 rfl).trans (ite_not _ _ _)
theorem i80_26 : insAt 80 26 = some (.aload_n 0, 1, (0, 0, 0, 0), 0) := rfl
theorem s80_26 {c : Nat → List AV → SS → Option Out} {l1 l2 : Option AV} {o : OId} {L2 : List (Nat × AV)} {St : List AV} {S : SS} : ev c 80 26 [some (aR o), l1, l2] L2 St S = ev c 80 27 [some (aR o), l1, l2] L2 (aR o :: St) S := ev_go i80_26 rfl
theorem i80_27 : insAt 80 27 = some (.iload_n 2, 1, (0, 0, 0, 0), 0) := rfl
theorem s80_27 {c : Nat → List AV → SS → Option Out} {l0 l1 : Option AV} {x : Int32} {L2 : List (Nat × AV)} {St : List AV} {S : SS} : ev c 80 27 [l0, l1, some (aI x)] L2 St S = ev c 80 28 [l0, l1, some (aI x)] L2 (aI x :: St) S := ev_go i80_27 rfl
theorem i80_28 : insAt 80 28 = some (.iload_n 1, 1, (0, 0, 0, 0), 0) := rfl
theorem s80_28 {c : Nat → List AV → SS → Option Out} {l0 l2 : Option AV} {x : Int32} {L2 : List (Nat × AV)} {St : List AV} {S : SS} : ev c 80 28 [l0, some (aI x), l2] L2 St S = ev c 80 29 [l0, some (aI x), l2] L2 (aI x :: St) S := ev_go i80_28 rfl
theorem i80_29 : insAt 80 29 = some (.invokevirtual 137, 3, (24, 2, 2, 4), 90) := rfl
theorem s80_29 {c : Nat → List AV → SS → Option Out} {l0 l1 l2 : Option AV} {a0 : Int32} {a1 : Int32} {j t : Nat} {L2 : List (Nat × AV)} {S : SS} : ev c 80 29 [l0, l1, l2] L2 [aI a1, aI a0, aR (4, j, t)] S = ck (c 24 [aR (4, j, t), aI a0, aI a1] S) (fun v S' => ev c 80 32 [l0, l1, l2] L2 (v.toList ++ []) S') := ev_call i80_29 rfl
theorem i80_32 : insAt 80 32 = some (.ifCond .ge 5, 3, (0, 0, 0, 0), 0) := rfl
theorem s80_32 {c : Nat → List AV → SS → Option Out} {l0 l1 l2 : Option AV} {x : Int32} {L2 : List (Nat × AV)} {St : List AV} {S : SS} : ev c 80 32 [l0, l1, l2] L2 (aI x :: St) S = if 0 ≤ x then ev c 80 37 [l0, l1, l2] L2 St S else ev c 80 35 [l0, l1, l2] L2 St S := ev_br i80_32 rfl
theorem i80_35 : insAt 80 35 = some (.iconst 1, 1, (0, 0, 0, 0), 0) := rfl
theorem s80_35 {c : Nat → List AV → SS → Option Out} {l0 l1 l2 : Option AV} {L2 : List (Nat × AV)} {St : List AV} {S : SS} : ev c 80 35 [l0, l1, l2] L2 St S = ev c 80 36 [l0, l1, l2] L2 (aI 1 :: St) S := ev_go i80_35 rfl
theorem i80_36 : insAt 80 36 = some (.ireturn, 1, (0, 0, 0, 0), 0) := rfl
theorem s80_36 {c : Nat → List AV → SS → Option Out} {l0 l1 l2 : Option AV} {x : Int32} {L2 : List (Nat × AV)} {S : SS} : ev c 80 36 [l0, l1, l2] L2 [aI x] S = if x = 0 ∨ x = 1 then some (.inl (some (aI x)), S) else none := ev_rt i80_36 rfl
theorem i80_37 : insAt 80 37 = some (.iinc 2 1, 3, (0, 0, 0, 0), 0) := rfl
theorem s80_37 {c : Nat → List AV → SS → Option Out} {l0 l1 : Option AV} {x : Int32} {L2 : List (Nat × AV)} {St : List AV} {S : SS} : ev c 80 37 [l0, l1, some (aI x)] L2 St S = ev c 80 40 [l0, l1, some (aI (x + 1))] (kil L2 2) St S := ev_go i80_37 rfl
theorem i80_40 : insAt 80 40 = some (.goto (-38), 3, (0, 0, 0, 0), 0) := rfl
theorem s80_40 {c : Nat → List AV → SS → Option Out} {l0 l1 l2 : Option AV} {L2 : List (Nat × AV)} {St : List AV} {S : SS} : ev c 80 40 [l0, l1, l2] L2 St S = ev c 80 2 [l0, l1, l2] L2 St S := ev_go i80_40 rfl
theorem i80_43 : insAt 80 43 = some (.iconst 0, 1, (0, 0, 0, 0), 0) := rfl
theorem s80_43 {c : Nat → List AV → SS → Option Out} {l0 l1 l2 : Option AV} {L2 : List (Nat × AV)} {St : List AV} {S : SS} : ev c 80 43 [l0, l1, l2] L2 St S = ev c 80 44 [l0, l1, l2] L2 (aI 0 :: St) S := ev_go i80_43 rfl
theorem i80_44 : insAt 80 44 = some (.ireturn, 1, (0, 0, 0, 0), 0) := rfl
theorem s80_44 {c : Nat → List AV → SS → Option Out} {l0 l1 l2 : Option AV} {x : Int32} {L2 : List (Nat × AV)} {S : SS} : ev c 80 44 [l0, l1, l2] L2 [aI x] S = if x = 0 ∨ x = 1 then some (.inl (some (aI x)), S) else none := ev_rt i80_44 rfl
theorem m80 {d : Nat} {o : OId} {a0 : Int32} {S : SS} : evm (d + 1) 80 [aR o, aI a0] S = ev (evm d) 80 0 [some (aR o), some (aI a0), none] [] [] S := evm_s (n := 3) rfl (Nat.le_of_ble_eq_true rfl) rfl rfl
/-! FrequencyOffice$Books.remove(I)V -/
theorem i81_0 : insAt 81 0 = some (.iload_n 1, 1, (0, 0, 0, 0), 0) := rfl
theorem s81_0 {c : Nat → List AV → SS → Option Out} {l0 l2 : Option AV} {x : Int32} {L2 : List (Nat × AV)} {St : List AV} {S : SS} : ev c 81 0 [l0, some (aI x), l2] L2 St S = ev c 81 1 [l0, some (aI x), l2] L2 (aI x :: St) S := ev_go i81_0 rfl
theorem i81_1 : insAt 81 1 = some (.istore_n 2, 1, (0, 0, 0, 0), 0) := rfl
theorem s81_1 {c : Nat → List AV → SS → Option Out} {l0 l1 l2 : Option AV} {x : Int32} {L2 : List (Nat × AV)} {St : List AV} {S : SS} : ev c 81 1 [l0, l1, l2] L2 (aI x :: St) S = ev c 81 2 [l0, l1, some (aI x)] (kil L2 2) St S := ev_go i81_1 rfl
theorem i81_2 : insAt 81 2 = some (.iload_n 2, 1, (0, 0, 0, 0), 0) := rfl
theorem s81_2 {c : Nat → List AV → SS → Option Out} {l0 l1 : Option AV} {x : Int32} {L2 : List (Nat × AV)} {St : List AV} {S : SS} : ev c 81 2 [l0, l1, some (aI x)] L2 St S = ev c 81 3 [l0, l1, some (aI x)] L2 (aI x :: St) S := ev_go i81_2 rfl
theorem i81_3 : insAt 81 3 = some (.aload_n 0, 1, (0, 0, 0, 0), 0) := rfl
theorem s81_3 {c : Nat → List AV → SS → Option Out} {l1 l2 : Option AV} {o : OId} {L2 : List (Nat × AV)} {St : List AV} {S : SS} : ev c 81 3 [some (aR o), l1, l2] L2 St S = ev c 81 4 [some (aR o), l1, l2] L2 (aR o :: St) S := ev_go i81_3 rfl
theorem i81_4 : insAt 81 4 = some (.getfield 33, 3, (4, 7, 0, 0), 28) := rfl
theorem s81_4 {c : Nat → List AV → SS → Option Out} {l0 l1 l2 : Option AV} {j t : Nat} {L2 : List (Nat × AV)} {St : List AV} {S : SS} : ev c 81 4 [l0, l1, l2] L2 (aR (4, j, t) :: St) S = ev c 81 7 [l0, l1, l2] L2 (aI (S.1 (4, j, t) 7) :: St) S := ev_go i81_4 rfl
theorem i81_7 : insAt 81 7 = some (.iconst 1, 1, (0, 0, 0, 0), 0) := rfl
theorem s81_7 {c : Nat → List AV → SS → Option Out} {l0 l1 l2 : Option AV} {L2 : List (Nat × AV)} {St : List AV} {S : SS} : ev c 81 7 [l0, l1, l2] L2 St S = ev c 81 8 [l0, l1, l2] L2 (aI 1 :: St) S := ev_go i81_7 rfl
theorem i81_8 : insAt 81 8 = some (.isub, 1, (0, 0, 0, 0), 0) := rfl
theorem s81_8 {c : Nat → List AV → SS → Option Out} {l0 l1 l2 : Option AV} {x y : Int32} {L2 : List (Nat × AV)} {St : List AV} {S : SS} : ev c 81 8 [l0, l1, l2] L2 (aI y :: aI x :: St) S = ev c 81 9 [l0, l1, l2] L2 (aI (x - y) :: St) S := ev_go i81_8 rfl
theorem i81_9 : insAt 81 9 = some (.if_icmp .ge 24, 3, (0, 0, 0, 0), 0) := rfl
theorem s81_9 {c : Nat → List AV → SS → Option Out} {l0 l1 l2 : Option AV} {x y : Int32} {L2 : List (Nat × AV)} {St : List AV} {S : SS} : ev c 81 9 [l0, l1, l2] L2 (aI y :: aI x :: St) S = if y ≤ x then ev c 81 33 [l0, l1, l2] L2 St S else ev c 81 12 [l0, l1, l2] L2 St S := ev_br i81_9 rfl
theorem i81_12 : insAt 81 12 = some (.aload_n 0, 1, (0, 0, 0, 0), 0) := rfl
theorem s81_12 {c : Nat → List AV → SS → Option Out} {l1 l2 : Option AV} {o : OId} {L2 : List (Nat × AV)} {St : List AV} {S : SS} : ev c 81 12 [some (aR o), l1, l2] L2 St S = ev c 81 13 [some (aR o), l1, l2] L2 (aR o :: St) S := ev_go i81_12 rfl
theorem i81_13 : insAt 81 13 = some (.iload_n 2, 1, (0, 0, 0, 0), 0) := rfl
theorem s81_13 {c : Nat → List AV → SS → Option Out} {l0 l1 : Option AV} {x : Int32} {L2 : List (Nat × AV)} {St : List AV} {S : SS} : ev c 81 13 [l0, l1, some (aI x)] L2 St S = ev c 81 14 [l0, l1, some (aI x)] L2 (aI x :: St) S := ev_go i81_13 rfl
theorem i81_14 : insAt 81 14 = some (.invokevirtual 58, 3, (17, 1, 2, 4), 81) := rfl
theorem s81_14 {c : Nat → List AV → SS → Option Out} {l0 l1 l2 : Option AV} {a0 : Int32} {j t : Nat} {L2 : List (Nat × AV)} {S : SS} : ev c 81 14 [l0, l1, l2] L2 [aI a0, aR (4, j, t)] S = ck (c 17 [aR (4, j, t), aI a0] S) (fun v S' => ev c 81 17 [l0, l1, l2] L2 (v.toList ++ []) S') := ev_call i81_14 rfl
theorem i81_17 : insAt 81 17 = some (.aload_n 0, 1, (0, 0, 0, 0), 0) := rfl
theorem s81_17 {c : Nat → List AV → SS → Option Out} {l1 l2 : Option AV} {o : OId} {L2 : List (Nat × AV)} {St : List AV} {S : SS} : ev c 81 17 [some (aR o), l1, l2] L2 St S = ev c 81 18 [some (aR o), l1, l2] L2 (aR o :: St) S := ev_go i81_17 rfl
theorem i81_18 : insAt 81 18 = some (.iload_n 2, 1, (0, 0, 0, 0), 0) := rfl
theorem s81_18 {c : Nat → List AV → SS → Option Out} {l0 l1 : Option AV} {x : Int32} {L2 : List (Nat × AV)} {St : List AV} {S : SS} : ev c 81 18 [l0, l1, some (aI x)] L2 St S = ev c 81 19 [l0, l1, some (aI x)] L2 (aI x :: St) S := ev_go i81_18 rfl
theorem i81_19 : insAt 81 19 = some (.iconst 1, 1, (0, 0, 0, 0), 0) := rfl
theorem s81_19 {c : Nat → List AV → SS → Option Out} {l0 l1 l2 : Option AV} {L2 : List (Nat × AV)} {St : List AV} {S : SS} : ev c 81 19 [l0, l1, l2] L2 St S = ev c 81 20 [l0, l1, l2] L2 (aI 1 :: St) S := ev_go i81_19 rfl
theorem i81_20 : insAt 81 20 = some (.iadd, 1, (0, 0, 0, 0), 0) := rfl
theorem s81_20 {c : Nat → List AV → SS → Option Out} {l0 l1 l2 : Option AV} {x y : Int32} {L2 : List (Nat × AV)} {St : List AV} {S : SS} : ev c 81 20 [l0, l1, l2] L2 (aI y :: aI x :: St) S = ev c 81 21 [l0, l1, l2] L2 (aI (x + y) :: St) S := ev_go i81_20 rfl
theorem i81_21 : insAt 81 21 = some (.invokevirtual 58, 3, (17, 1, 2, 4), 81) := rfl
theorem s81_21 {c : Nat → List AV → SS → Option Out} {l0 l1 l2 : Option AV} {t0 : AV} {a0 : Int32} {j t : Nat} {L2 : List (Nat × AV)} {S : SS} : ev c 81 21 [l0, l1, l2] L2 [aI a0, aR (4, j, t), t0] S = ck (c 17 [aR (4, j, t), aI a0] S) (fun v S' => ev c 81 24 [l0, l1, l2] L2 (v.toList ++ [t0]) S') := ev_call i81_21 rfl
theorem i81_24 : insAt 81 24 = some (.invokevirtual 62, 3, (54, 1, 3, 10), 146) := rfl
theorem s81_24 {c : Nat → List AV → SS → Option Out} {l0 l1 l2 : Option AV} {a0 : OId} {j t : Nat} {L2 : List (Nat × AV)} {S : SS} : ev c 81 24 [l0, l1, l2] L2 [aR a0, aR (10, j, t)] S = ck (c 54 [aR (10, j, t), aR a0] S) (fun v S' => ev c 81 27 [l0, l1, l2] L2 (v.toList ++ []) S') := ev_call i81_24 rfl
theorem i81_27 : insAt 81 27 = some (.iinc 2 1, 3, (0, 0, 0, 0), 0) := rfl
theorem s81_27 {c : Nat → List AV → SS → Option Out} {l0 l1 : Option AV} {x : Int32} {L2 : List (Nat × AV)} {St : List AV} {S : SS} : ev c 81 27 [l0, l1, some (aI x)] L2 St S = ev c 81 30 [l0, l1, some (aI (x + 1))] (kil L2 2) St S := ev_go i81_27 rfl
theorem i81_30 : insAt 81 30 = some (.goto (-28), 3, (0, 0, 0, 0), 0) := rfl
theorem s81_30 {c : Nat → List AV → SS → Option Out} {l0 l1 l2 : Option AV} {L2 : List (Nat × AV)} {St : List AV} {S : SS} : ev c 81 30 [l0, l1, l2] L2 St S = ev c 81 2 [l0, l1, l2] L2 St S := ev_go i81_30 rfl
theorem i81_33 : insAt 81 33 = some (.aload_n 0, 1, (0, 0, 0, 0), 0) := rfl
theorem s81_33 {c : Nat → List AV → SS → Option Out} {l1 l2 : Option AV} {o : OId} {L2 : List (Nat × AV)} {St : List AV} {S : SS} : ev c 81 33 [some (aR o), l1, l2] L2 St S = ev c 81 34 [some (aR o), l1, l2] L2 (aR o :: St) S := ev_go i81_33 rfl
theorem i81_34 : insAt 81 34 = some (.iload_n 1, 1, (0, 0, 0, 0), 0) := rfl
theorem s81_34 {c : Nat → List AV → SS → Option Out} {l0 l2 : Option AV} {x : Int32} {L2 : List (Nat × AV)} {St : List AV} {S : SS} : ev c 81 34 [l0, some (aI x), l2] L2 St S = ev c 81 35 [l0, some (aI x), l2] L2 (aI x :: St) S := ev_go i81_34 rfl
theorem i81_35 : insAt 81 35 = some (.invokevirtual 91, 3, (82, 1, 2, 4), 212) := rfl
theorem s81_35 {c : Nat → List AV → SS → Option Out} {l0 l1 l2 : Option AV} {a0 : Int32} {j t : Nat} {L2 : List (Nat × AV)} {S : SS} : ev c 81 35 [l0, l1, l2] L2 [aI a0, aR (4, j, t)] S = ck (c 82 [aR (4, j, t), aI a0] S) (fun v S' => ev c 81 38 [l0, l1, l2] L2 (v.toList ++ []) S') := ev_call i81_35 rfl
theorem i81_38 : insAt 81 38 = some (.aload_n 0, 1, (0, 0, 0, 0), 0) := rfl
theorem s81_38 {c : Nat → List AV → SS → Option Out} {l1 l2 : Option AV} {o : OId} {L2 : List (Nat × AV)} {St : List AV} {S : SS} : ev c 81 38 [some (aR o), l1, l2] L2 St S = ev c 81 39 [some (aR o), l1, l2] L2 (aR o :: St) S := ev_go i81_38 rfl
theorem i81_39 : insAt 81 39 = some (.dup, 1, (0, 0, 0, 0), 0) := rfl
theorem s81_39 {c : Nat → List AV → SS → Option Out} {l0 l1 l2 : Option AV} {x : OId} {L2 : List (Nat × AV)} {St : List AV} {S : SS} : ev c 81 39 [l0, l1, l2] L2 (aR x :: St) S = ev c 81 40 [l0, l1, l2] L2 (aR x :: aR x :: St) S := ev_go i81_39 rfl
theorem i81_40 : insAt 81 40 = some (.getfield 33, 3, (4, 7, 0, 0), 28) := rfl
theorem s81_40 {c : Nat → List AV → SS → Option Out} {l0 l1 l2 : Option AV} {j t : Nat} {L2 : List (Nat × AV)} {St : List AV} {S : SS} : ev c 81 40 [l0, l1, l2] L2 (aR (4, j, t) :: St) S = ev c 81 43 [l0, l1, l2] L2 (aI (S.1 (4, j, t) 7) :: St) S := ev_go i81_40 rfl
theorem i81_43 : insAt 81 43 = some (.iconst 1, 1, (0, 0, 0, 0), 0) := rfl
theorem s81_43 {c : Nat → List AV → SS → Option Out} {l0 l1 l2 : Option AV} {L2 : List (Nat × AV)} {St : List AV} {S : SS} : ev c 81 43 [l0, l1, l2] L2 St S = ev c 81 44 [l0, l1, l2] L2 (aI 1 :: St) S := ev_go i81_43 rfl
theorem i81_44 : insAt 81 44 = some (.isub, 1, (0, 0, 0, 0), 0) := rfl
theorem s81_44 {c : Nat → List AV → SS → Option Out} {l0 l1 l2 : Option AV} {x y : Int32} {L2 : List (Nat × AV)} {St : List AV} {S : SS} : ev c 81 44 [l0, l1, l2] L2 (aI y :: aI x :: St) S = ev c 81 45 [l0, l1, l2] L2 (aI (x - y) :: St) S := ev_go i81_44 rfl
theorem i81_45 : insAt 81 45 = some (.putfield 33, 3, (4, 7, 0, 0), 28) := rfl
theorem s81_45 {c : Nat → List AV → SS → Option Out} {l0 l1 l2 : Option AV} {j t : Nat} {x : Int32} {L2 : List (Nat × AV)} {St : List AV} {S : SS} : ev c 81 45 [l0, l1, l2] L2 (aI x :: aR (4, j, t) :: St) S = ev c 81 48 [l0, l1, l2] L2 St (setI S.1 (4, j, t) 7 x, S.2) := ev_go i81_45 rfl
theorem i81_48 : insAt 81 48 = some (.return_, 1, (0, 0, 0, 0), 0) := rfl
theorem s81_48 {c : Nat → List AV → SS → Option Out} {l0 l1 l2 : Option AV} {L2 : List (Nat × AV)} {S : SS} : ev c 81 48 [l0, l1, l2] L2 [] S = some (.inl none, S) := ev_end i81_48 rfl
theorem m81 {d : Nat} {o : OId} {a0 : Int32} {S : SS} : evm (d + 1) 81 [aR o, aI a0] S = ev (evm d) 81 0 [some (aR o), some (aI a0), none] [] [] S := evm_s (n := 3) rfl (Nat.le_of_ble_eq_true rfl) rfl rfl
/-! FrequencyOffice$Books.removeComplaints(I)V -/
theorem i82_0 : insAt 82 0 = some (.iconst 0, 1, (0, 0, 0, 0), 0) := rfl
theorem s82_0 {c : Nat → List AV → SS → Option Out} {l0 l1 l2 l3 l4 : Option AV} {L2 : List (Nat × AV)} {St : List AV} {S : SS} : ev c 82 0 [l0, l1, l2, l3, l4] L2 St S = ev c 82 1 [l0, l1, l2, l3, l4] L2 (aI 0 :: St) S := ev_go i82_0 rfl
theorem i82_1 : insAt 82 1 = some (.istore_n 2, 1, (0, 0, 0, 0), 0) := rfl
theorem s82_1 {c : Nat → List AV → SS → Option Out} {l0 l1 l2 l3 l4 : Option AV} {x : Int32} {L2 : List (Nat × AV)} {St : List AV} {S : SS} : ev c 82 1 [l0, l1, l2, l3, l4] L2 (aI x :: St) S = ev c 82 2 [l0, l1, some (aI x), l3, l4] (kil L2 2) St S := ev_go i82_1 rfl
theorem i82_2 : insAt 82 2 = some (.iload_n 2, 1, (0, 0, 0, 0), 0) := rfl
theorem s82_2 {c : Nat → List AV → SS → Option Out} {l0 l1 l3 l4 : Option AV} {x : Int32} {L2 : List (Nat × AV)} {St : List AV} {S : SS} : ev c 82 2 [l0, l1, some (aI x), l3, l4] L2 St S = ev c 82 3 [l0, l1, some (aI x), l3, l4] L2 (aI x :: St) S := ev_go i82_2 rfl
theorem i82_3 : insAt 82 3 = some (.bipush 7, 2, (0, 0, 0, 0), 0) := rfl
theorem s82_3 {c : Nat → List AV → SS → Option Out} {l0 l1 l2 l3 l4 : Option AV} {L2 : List (Nat × AV)} {St : List AV} {S : SS} : ev c 82 3 [l0, l1, l2, l3, l4] L2 St S = ev c 82 5 [l0, l1, l2, l3, l4] L2 (aI 7 :: St) S := ev_go i82_3 rfl
theorem i82_5 : insAt 82 5 = some (.if_icmp .ge 67, 3, (0, 0, 0, 0), 0) := rfl
theorem s82_5 {c : Nat → List AV → SS → Option Out} {l0 l1 l2 l3 l4 : Option AV} {x y : Int32} {L2 : List (Nat × AV)} {St : List AV} {S : SS} : ev c 82 5 [l0, l1, l2, l3, l4] L2 (aI y :: aI x :: St) S = if y ≤ x then ev c 82 72 [l0, l1, l2, l3, l4] L2 St S else ev c 82 8 [l0, l1, l2, l3, l4] L2 St S := ev_br i82_5 rfl
theorem i82_8 : insAt 82 8 = some (.iconst 0, 1, (0, 0, 0, 0), 0) := rfl
theorem s82_8 {c : Nat → List AV → SS → Option Out} {l0 l1 l2 l3 l4 : Option AV} {L2 : List (Nat × AV)} {St : List AV} {S : SS} : ev c 82 8 [l0, l1, l2, l3, l4] L2 St S = ev c 82 9 [l0, l1, l2, l3, l4] L2 (aI 0 :: St) S := ev_go i82_8 rfl
theorem i82_9 : insAt 82 9 = some (.istore_n 3, 1, (0, 0, 0, 0), 0) := rfl
theorem s82_9 {c : Nat → List AV → SS → Option Out} {l0 l1 l2 l3 l4 : Option AV} {x : Int32} {L2 : List (Nat × AV)} {St : List AV} {S : SS} : ev c 82 9 [l0, l1, l2, l3, l4] L2 (aI x :: St) S = ev c 82 10 [l0, l1, l2, some (aI x), l4] (kil L2 3) St S := ev_go i82_9 rfl
theorem i82_10 : insAt 82 10 = some (.iload_n 3, 1, (0, 0, 0, 0), 0) := rfl
theorem s82_10 {c : Nat → List AV → SS → Option Out} {l0 l1 l2 l4 : Option AV} {x : Int32} {L2 : List (Nat × AV)} {St : List AV} {S : SS} : ev c 82 10 [l0, l1, l2, some (aI x), l4] L2 St S = ev c 82 11 [l0, l1, l2, some (aI x), l4] L2 (aI x :: St) S := ev_go i82_10 rfl
theorem i82_11 : insAt 82 11 = some (.bipush 7, 2, (0, 0, 0, 0), 0) := rfl
theorem s82_11 {c : Nat → List AV → SS → Option Out} {l0 l1 l2 l3 l4 : Option AV} {L2 : List (Nat × AV)} {St : List AV} {S : SS} : ev c 82 11 [l0, l1, l2, l3, l4] L2 St S = ev c 82 13 [l0, l1, l2, l3, l4] L2 (aI 7 :: St) S := ev_go i82_11 rfl
theorem i82_13 : insAt 82 13 = some (.if_icmp .ge 53, 3, (0, 0, 0, 0), 0) := rfl
theorem s82_13 {c : Nat → List AV → SS → Option Out} {l0 l1 l2 l3 l4 : Option AV} {x y : Int32} {L2 : List (Nat × AV)} {St : List AV} {S : SS} : ev c 82 13 [l0, l1, l2, l3, l4] L2 (aI y :: aI x :: St) S = if y ≤ x then ev c 82 66 [l0, l1, l2, l3, l4] L2 St S else ev c 82 16 [l0, l1, l2, l3, l4] L2 St S := ev_br i82_13 rfl
theorem i82_16 : insAt 82 16 = some (.aload_n 0, 1, (0, 0, 0, 0), 0) := rfl
theorem s82_16 {c : Nat → List AV → SS → Option Out} {l1 l2 l3 l4 : Option AV} {o : OId} {L2 : List (Nat × AV)} {St : List AV} {S : SS} : ev c 82 16 [some (aR o), l1, l2, l3, l4] L2 St S = ev c 82 17 [some (aR o), l1, l2, l3, l4] L2 (aR o :: St) S := ev_go i82_16 rfl
theorem i82_17 : insAt 82 17 = some (.iload_n 2, 1, (0, 0, 0, 0), 0) := rfl
theorem s82_17 {c : Nat → List AV → SS → Option Out} {l0 l1 l3 l4 : Option AV} {x : Int32} {L2 : List (Nat × AV)} {St : List AV} {S : SS} : ev c 82 17 [l0, l1, some (aI x), l3, l4] L2 St S = ev c 82 18 [l0, l1, some (aI x), l3, l4] L2 (aI x :: St) S := ev_go i82_17 rfl
theorem i82_18 : insAt 82 18 = some (.iload_n 1, 1, (0, 0, 0, 0), 0) := rfl
theorem s82_18 {c : Nat → List AV → SS → Option Out} {l0 l2 l3 l4 : Option AV} {x : Int32} {L2 : List (Nat × AV)} {St : List AV} {S : SS} : ev c 82 18 [l0, some (aI x), l2, l3, l4] L2 St S = ev c 82 19 [l0, some (aI x), l2, l3, l4] L2 (aI x :: St) S := ev_go i82_18 rfl
theorem i82_19 : insAt 82 19 = some (.if_icmp .ge 7, 3, (0, 0, 0, 0), 0) := rfl
theorem s82_19 {c : Nat → List AV → SS → Option Out} {l0 l1 l2 l3 l4 : Option AV} {x y : Int32} {L2 : List (Nat × AV)} {St : List AV} {S : SS} : ev c 82 19 [l0, l1, l2, l3, l4] L2 (aI y :: aI x :: St) S = if y ≤ x then ev c 82 26 [l0, l1, l2, l3, l4] L2 St S else ev c 82 22 [l0, l1, l2, l3, l4] L2 St S := ev_br i82_19 rfl
theorem i82_22 : insAt 82 22 = some (.iload_n 2, 1, (0, 0, 0, 0), 0) := rfl
theorem s82_22 {c : Nat → List AV → SS → Option Out} {l0 l1 l3 l4 : Option AV} {x : Int32} {L2 : List (Nat × AV)} {St : List AV} {S : SS} : ev c 82 22 [l0, l1, some (aI x), l3, l4] L2 St S = ev c 82 23 [l0, l1, some (aI x), l3, l4] L2 (aI x :: St) S := ev_go i82_22 rfl
theorem i82_23 : insAt 82 23 = some (.goto 6, 3, (0, 0, 0, 0), 0) := rfl
theorem s82_23 {c : Nat → List AV → SS → Option Out} {l0 l1 l2 l3 l4 : Option AV} {L2 : List (Nat × AV)} {St : List AV} {S : SS} : ev c 82 23 [l0, l1, l2, l3, l4] L2 St S = ev c 82 29 [l0, l1, l2, l3, l4] L2 St S := ev_go i82_23 rfl
theorem i82_26 : insAt 82 26 = some (.iload_n 2, 1, (0, 0, 0, 0), 0) := rfl
theorem s82_26 {c : Nat → List AV → SS → Option Out} {l0 l1 l3 l4 : Option AV} {x : Int32} {L2 : List (Nat × AV)} {St : List AV} {S : SS} : ev c 82 26 [l0, l1, some (aI x), l3, l4] L2 St S = ev c 82 27 [l0, l1, some (aI x), l3, l4] L2 (aI x :: St) S := ev_go i82_26 rfl
theorem i82_27 : insAt 82 27 = some (.iconst 1, 1, (0, 0, 0, 0), 0) := rfl
theorem s82_27 {c : Nat → List AV → SS → Option Out} {l0 l1 l2 l3 l4 : Option AV} {L2 : List (Nat × AV)} {St : List AV} {S : SS} : ev c 82 27 [l0, l1, l2, l3, l4] L2 St S = ev c 82 28 [l0, l1, l2, l3, l4] L2 (aI 1 :: St) S := ev_go i82_27 rfl
theorem i82_28 : insAt 82 28 = some (.iadd, 1, (0, 0, 0, 0), 0) := rfl
theorem s82_28 {c : Nat → List AV → SS → Option Out} {l0 l1 l2 l3 l4 : Option AV} {x y : Int32} {L2 : List (Nat × AV)} {St : List AV} {S : SS} : ev c 82 28 [l0, l1, l2, l3, l4] L2 (aI y :: aI x :: St) S = ev c 82 29 [l0, l1, l2, l3, l4] L2 (aI (x + y) :: St) S := ev_go i82_28 rfl
theorem i82_29 : insAt 82 29 = some (.iload_n 3, 1, (0, 0, 0, 0), 0) := rfl
theorem s82_29 {c : Nat → List AV → SS → Option Out} {l0 l1 l2 l4 : Option AV} {x : Int32} {L2 : List (Nat × AV)} {St : List AV} {S : SS} : ev c 82 29 [l0, l1, l2, some (aI x), l4] L2 St S = ev c 82 30 [l0, l1, l2, some (aI x), l4] L2 (aI x :: St) S := ev_go i82_29 rfl
theorem i82_30 : insAt 82 30 = some (.iload_n 1, 1, (0, 0, 0, 0), 0) := rfl
theorem s82_30 {c : Nat → List AV → SS → Option Out} {l0 l2 l3 l4 : Option AV} {x : Int32} {L2 : List (Nat × AV)} {St : List AV} {S : SS} : ev c 82 30 [l0, some (aI x), l2, l3, l4] L2 St S = ev c 82 31 [l0, some (aI x), l2, l3, l4] L2 (aI x :: St) S := ev_go i82_30 rfl
theorem i82_31 : insAt 82 31 = some (.if_icmp .ge 7, 3, (0, 0, 0, 0), 0) := rfl
theorem s82_31 {c : Nat → List AV → SS → Option Out} {l0 l1 l2 l3 l4 : Option AV} {x y : Int32} {L2 : List (Nat × AV)} {St : List AV} {S : SS} : ev c 82 31 [l0, l1, l2, l3, l4] L2 (aI y :: aI x :: St) S = if y ≤ x then ev c 82 38 [l0, l1, l2, l3, l4] L2 St S else ev c 82 34 [l0, l1, l2, l3, l4] L2 St S := ev_br i82_31 rfl
theorem i82_34 : insAt 82 34 = some (.iload_n 3, 1, (0, 0, 0, 0), 0) := rfl
theorem s82_34 {c : Nat → List AV → SS → Option Out} {l0 l1 l2 l4 : Option AV} {x : Int32} {L2 : List (Nat × AV)} {St : List AV} {S : SS} : ev c 82 34 [l0, l1, l2, some (aI x), l4] L2 St S = ev c 82 35 [l0, l1, l2, some (aI x), l4] L2 (aI x :: St) S := ev_go i82_34 rfl
theorem i82_35 : insAt 82 35 = some (.goto 6, 3, (0, 0, 0, 0), 0) := rfl
theorem s82_35 {c : Nat → List AV → SS → Option Out} {l0 l1 l2 l3 l4 : Option AV} {L2 : List (Nat × AV)} {St : List AV} {S : SS} : ev c 82 35 [l0, l1, l2, l3, l4] L2 St S = ev c 82 41 [l0, l1, l2, l3, l4] L2 St S := ev_go i82_35 rfl
theorem i82_38 : insAt 82 38 = some (.iload_n 3, 1, (0, 0, 0, 0), 0) := rfl
theorem s82_38 {c : Nat → List AV → SS → Option Out} {l0 l1 l2 l4 : Option AV} {x : Int32} {L2 : List (Nat × AV)} {St : List AV} {S : SS} : ev c 82 38 [l0, l1, l2, some (aI x), l4] L2 St S = ev c 82 39 [l0, l1, l2, some (aI x), l4] L2 (aI x :: St) S := ev_go i82_38 rfl
theorem i82_39 : insAt 82 39 = some (.iconst 1, 1, (0, 0, 0, 0), 0) := rfl
theorem s82_39 {c : Nat → List AV → SS → Option Out} {l0 l1 l2 l3 l4 : Option AV} {L2 : List (Nat × AV)} {St : List AV} {S : SS} : ev c 82 39 [l0, l1, l2, l3, l4] L2 St S = ev c 82 40 [l0, l1, l2, l3, l4] L2 (aI 1 :: St) S := ev_go i82_39 rfl
theorem i82_40 : insAt 82 40 = some (.iadd, 1, (0, 0, 0, 0), 0) := rfl
theorem s82_40 {c : Nat → List AV → SS → Option Out} {l0 l1 l2 l3 l4 : Option AV} {x y : Int32} {L2 : List (Nat × AV)} {St : List AV} {S : SS} : ev c 82 40 [l0, l1, l2, l3, l4] L2 (aI y :: aI x :: St) S = ev c 82 41 [l0, l1, l2, l3, l4] L2 (aI (x + y) :: St) S := ev_go i82_40 rfl
theorem i82_41 : insAt 82 41 = some (.invokevirtual 95, 3, (29, 2, 2, 4), 95) := rfl
theorem s82_41 {c : Nat → List AV → SS → Option Out} {l0 l1 l2 l3 l4 : Option AV} {a0 : Int32} {a1 : Int32} {j t : Nat} {L2 : List (Nat × AV)} {S : SS} : ev c 82 41 [l0, l1, l2, l3, l4] L2 [aI a1, aI a0, aR (4, j, t)] S = ck (c 29 [aR (4, j, t), aI a0, aI a1] S) (fun v S' => ev c 82 44 [l0, l1, l2, l3, l4] L2 (v.toList ++ []) S') := ev_call i82_41 rfl
theorem i82_44 : insAt 82 44 = some (.istore 4, 2, (0, 0, 0, 0), 0) := rfl
theorem s82_44 {c : Nat → List AV → SS → Option Out} {l0 l1 l2 l3 l4 : Option AV} {x : Int32} {L2 : List (Nat × AV)} {St : List AV} {S : SS} : ev c 82 44 [l0, l1, l2, l3, l4] L2 (aI x :: St) S = ev c 82 46 [l0, l1, l2, l3, some (aI x)] (kil L2 4) St S := ev_go i82_44 rfl
theorem i82_46 : insAt 82 46 = some (.aload_n 0, 1, (0, 0, 0, 0), 0) := rfl
theorem s82_46 {c : Nat → List AV → SS → Option Out} {l1 l2 l3 l4 : Option AV} {o : OId} {L2 : List (Nat × AV)} {St : List AV} {S : SS} : ev c 82 46 [some (aR o), l1, l2, l3, l4] L2 St S = ev c 82 47 [some (aR o), l1, l2, l3, l4] L2 (aR o :: St) S := ev_go i82_46 rfl
theorem i82_47 : insAt 82 47 = some (.getfield 47, 3, (4, 10, 0, 0), 33) := rfl
theorem s82_47 {c : Nat → List AV → SS → Option Out} {l0 l1 l2 l3 l4 : Option AV} {j t : Nat} {L2 : List (Nat × AV)} {St : List AV} {S : SS} : ev c 82 47 [l0, l1, l2, l3, l4] L2 (aR (4, j, t) :: St) S = ev c 82 50 [l0, l1, l2, l3, l4] L2 (S.2.2.1 (4, j, t) 10 :: St) S := ev_go i82_47 rfl
theorem i82_50 : insAt 82 50 = some (.iload_n 2, 1, (0, 0, 0, 0), 0) := rfl
theorem s82_50 {c : Nat → List AV → SS → Option Out} {l0 l1 l3 l4 : Option AV} {x : Int32} {L2 : List (Nat × AV)} {St : List AV} {S : SS} : ev c 82 50 [l0, l1, some (aI x), l3, l4] L2 St S = ev c 82 51 [l0, l1, some (aI x), l3, l4] L2 (aI x :: St) S := ev_go i82_50 rfl
theorem i82_51 : insAt 82 51 = some (.iload_n 3, 1, (0, 0, 0, 0), 0) := rfl
theorem s82_51 {c : Nat → List AV → SS → Option Out} {l0 l1 l2 l4 : Option AV} {x : Int32} {L2 : List (Nat × AV)} {St : List AV} {S : SS} : ev c 82 51 [l0, l1, l2, some (aI x), l4] L2 St S = ev c 82 52 [l0, l1, l2, some (aI x), l4] L2 (aI x :: St) S := ev_go i82_51 rfl
theorem i82_52 : insAt 82 52 = some (.invokestatic 99, 3, (30, 2, 1, 0), 102) := rfl
theorem s82_52 {c : Nat → List AV → SS → Option Out} {l0 l1 l2 l3 l4 : Option AV} {t0 : AV} {a0 : Int32} {a1 : Int32} {L2 : List (Nat × AV)} {S : SS} : ev c 82 52 [l0, l1, l2, l3, l4] L2 [aI a1, aI a0, t0] S = ck (c 30 [aI a0, aI a1] S) (fun v S' => ev c 82 55 [l0, l1, l2, l3, l4] L2 (v.toList ++ [t0]) S') := ev_call i82_52 rfl
theorem i82_55 : insAt 82 55 = some (.iload 4, 2, (0, 0, 0, 0), 0) := rfl
theorem s82_55 {c : Nat → List AV → SS → Option Out} {l0 l1 l2 l3 : Option AV} {x : Int32} {L2 : List (Nat × AV)} {St : List AV} {S : SS} : ev c 82 55 [l0, l1, l2, l3, some (aI x)] L2 St S = ev c 82 57 [l0, l1, l2, l3, some (aI x)] L2 (aI x :: St) S := ev_go i82_55 rfl
theorem i82_57 : insAt 82 57 = some (.invokestatic 102, 3, (35, 3, 1, 0), 213) := rfl
theorem s82_57 {c : Nat → List AV → SS → Option Out} {l0 l1 l2 l3 l4 : Option AV} {a0 : OId} {a1 : Int32} {a2 : Int32} {L2 : List (Nat × AV)} {S : SS} : ev c 82 57 [l0, l1, l2, l3, l4] L2 [aI a2, aI a1, aR a0] S = ck (c 35 [aR a0, aI a1, aI a2] S) (fun v S' => ev c 82 60 [l0, l1, l2, l3, l4] L2 (v.toList ++ []) S') := ev_call i82_57 rfl
theorem i82_60 : insAt 82 60 = some (.iinc 3 1, 3, (0, 0, 0, 0), 0) := rfl
theorem s82_60 {c : Nat → List AV → SS → Option Out} {l0 l1 l2 l4 : Option AV} {x : Int32} {L2 : List (Nat × AV)} {St : List AV} {S : SS} : ev c 82 60 [l0, l1, l2, some (aI x), l4] L2 St S = ev c 82 63 [l0, l1, l2, some (aI (x + 1)), l4] (kil L2 3) St S := ev_go i82_60 rfl
theorem i82_63 : insAt 82 63 = some (.goto (-53), 3, (0, 0, 0, 0), 0) := rfl
theorem s82_63 {c : Nat → List AV → SS → Option Out} {l0 l1 l2 l3 l4 : Option AV} {L2 : List (Nat × AV)} {St : List AV} {S : SS} : ev c 82 63 [l0, l1, l2, l3, l4] L2 St S = ev c 82 10 [l0, l1, l2, l3, l4] L2 St S := ev_go i82_63 rfl
theorem i82_66 : insAt 82 66 = some (.iinc 2 1, 3, (0, 0, 0, 0), 0) := rfl
theorem s82_66 {c : Nat → List AV → SS → Option Out} {l0 l1 l3 l4 : Option AV} {x : Int32} {L2 : List (Nat × AV)} {St : List AV} {S : SS} : ev c 82 66 [l0, l1, some (aI x), l3, l4] L2 St S = ev c 82 69 [l0, l1, some (aI (x + 1)), l3, l4] (kil L2 2) St S := ev_go i82_66 rfl
theorem i82_69 : insAt 82 69 = some (.goto (-67), 3, (0, 0, 0, 0), 0) := rfl
theorem s82_69 {c : Nat → List AV → SS → Option Out} {l0 l1 l2 l3 l4 : Option AV} {L2 : List (Nat × AV)} {St : List AV} {S : SS} : ev c 82 69 [l0, l1, l2, l3, l4] L2 St S = ev c 82 2 [l0, l1, l2, l3, l4] L2 St S := ev_go i82_69 rfl
theorem i82_72 : insAt 82 72 = some (.return_, 1, (0, 0, 0, 0), 0) := rfl
theorem s82_72 {c : Nat → List AV → SS → Option Out} {l0 l1 l2 l3 l4 : Option AV} {L2 : List (Nat × AV)} {S : SS} : ev c 82 72 [l0, l1, l2, l3, l4] L2 [] S = some (.inl none, S) := ev_end i82_72 rfl
theorem m82 {d : Nat} {o : OId} {a0 : Int32} {S : SS} : evm (d + 1) 82 [aR o, aI a0] S = ev (evm d) 82 0 [some (aR o), some (aI a0), none, none, none] [] [] S := evm_s (n := 5) rfl (Nat.le_of_ble_eq_true rfl) rfl rfl
/-! FrequencyOffice$Books.quietestFree(II)I -/
theorem i85_0 : insAt 85 0 = some (.iconst (-1), 1, (0, 0, 0, 0), 0) := rfl
theorem s85_0 {c : Nat → List AV → SS → Option Out} {l0 l1 l2 l3 l4 l5 l6 l7 : Option AV} {L2 : List (Nat × AV)} {St : List AV} {S : SS} : ev c 85 0 [l0, l1, l2, l3, l4, l5, l6, l7] L2 St S = ev c 85 1 [l0, l1, l2, l3, l4, l5, l6, l7] L2 (aI (-1) :: St) S := ev_go i85_0 rfl
theorem i85_1 : insAt 85 1 = some (.istore_n 3, 1, (0, 0, 0, 0), 0) := rfl
theorem s85_1 {c : Nat → List AV → SS → Option Out} {l0 l1 l2 l3 l4 l5 l6 l7 : Option AV} {x : Int32} {L2 : List (Nat × AV)} {St : List AV} {S : SS} : ev c 85 1 [l0, l1, l2, l3, l4, l5, l6, l7] L2 (aI x :: St) S = ev c 85 2 [l0, l1, l2, some (aI x), l4, l5, l6, l7] (kil L2 3) St S := ev_go i85_1 rfl
theorem i85_2 : insAt 85 2 = some (.iconst 0, 1, (0, 0, 0, 0), 0) := rfl
theorem s85_2 {c : Nat → List AV → SS → Option Out} {l0 l1 l2 l3 l4 l5 l6 l7 : Option AV} {L2 : List (Nat × AV)} {St : List AV} {S : SS} : ev c 85 2 [l0, l1, l2, l3, l4, l5, l6, l7] L2 St S = ev c 85 3 [l0, l1, l2, l3, l4, l5, l6, l7] L2 (aI 0 :: St) S := ev_go i85_2 rfl
theorem i85_3 : insAt 85 3 = some (.istore 4, 2, (0, 0, 0, 0), 0) := rfl
theorem s85_3 {c : Nat → List AV → SS → Option Out} {l0 l1 l2 l3 l4 l5 l6 l7 : Option AV} {x : Int32} {L2 : List (Nat × AV)} {St : List AV} {S : SS} : ev c 85 3 [l0, l1, l2, l3, l4, l5, l6, l7] L2 (aI x :: St) S = ev c 85 5 [l0, l1, l2, l3, some (aI x), l5, l6, l7] (kil L2 4) St S := ev_go i85_3 rfl
theorem i85_5 : insAt 85 5 = some (.iconst 0, 1, (0, 0, 0, 0), 0) := rfl
theorem s85_5 {c : Nat → List AV → SS → Option Out} {l0 l1 l2 l3 l4 l5 l6 l7 : Option AV} {L2 : List (Nat × AV)} {St : List AV} {S : SS} : ev c 85 5 [l0, l1, l2, l3, l4, l5, l6, l7] L2 St S = ev c 85 6 [l0, l1, l2, l3, l4, l5, l6, l7] L2 (aI 0 :: St) S := ev_go i85_5 rfl
theorem i85_6 : insAt 85 6 = some (.istore 5, 2, (0, 0, 0, 0), 0) := rfl
theorem s85_6 {c : Nat → List AV → SS → Option Out} {l0 l1 l2 l3 l4 l5 l6 l7 : Option AV} {x : Int32} {L2 : List (Nat × AV)} {St : List AV} {S : SS} : ev c 85 6 [l0, l1, l2, l3, l4, l5, l6, l7] L2 (aI x :: St) S = ev c 85 8 [l0, l1, l2, l3, l4, some (aI x), l6, l7] (kil L2 5) St S := ev_go i85_6 rfl
theorem i85_8 : insAt 85 8 = some (.iload 5, 2, (0, 0, 0, 0), 0) := rfl
theorem s85_8 {c : Nat → List AV → SS → Option Out} {l0 l1 l2 l3 l4 l6 l7 : Option AV} {x : Int32} {L2 : List (Nat × AV)} {St : List AV} {S : SS} : ev c 85 8 [l0, l1, l2, l3, l4, some (aI x), l6, l7] L2 St S = ev c 85 10 [l0, l1, l2, l3, l4, some (aI x), l6, l7] L2 (aI x :: St) S := ev_go i85_8 rfl
theorem i85_10 : insAt 85 10 = some (.bipush 8, 2, (0, 0, 0, 0), 0) := rfl
theorem s85_10 {c : Nat → List AV → SS → Option Out} {l0 l1 l2 l3 l4 l5 l6 l7 : Option AV} {L2 : List (Nat × AV)} {St : List AV} {S : SS} : ev c 85 10 [l0, l1, l2, l3, l4, l5, l6, l7] L2 St S = ev c 85 12 [l0, l1, l2, l3, l4, l5, l6, l7] L2 (aI 8 :: St) S := ev_go i85_10 rfl
theorem i85_12 : insAt 85 12 = some (.if_icmp .ge 62, 3, (0, 0, 0, 0), 0) := rfl
theorem s85_12 {c : Nat → List AV → SS → Option Out} {l0 l1 l2 l3 l4 l5 l6 l7 : Option AV} {x y : Int32} {L2 : List (Nat × AV)} {St : List AV} {S : SS} : ev c 85 12 [l0, l1, l2, l3, l4, l5, l6, l7] L2 (aI y :: aI x :: St) S = if y ≤ x then ev c 85 74 [l0, l1, l2, l3, l4, l5, l6, l7] L2 St S else ev c 85 15 [l0, l1, l2, l3, l4, l5, l6, l7] L2 St S := ev_br i85_12 rfl
theorem i85_15 : insAt 85 15 = some (.aload_n 0, 1, (0, 0, 0, 0), 0) := rfl
theorem s85_15 {c : Nat → List AV → SS → Option Out} {l1 l2 l3 l4 l5 l6 l7 : Option AV} {o : OId} {L2 : List (Nat × AV)} {St : List AV} {S : SS} : ev c 85 15 [some (aR o), l1, l2, l3, l4, l5, l6, l7] L2 St S = ev c 85 16 [some (aR o), l1, l2, l3, l4, l5, l6, l7] L2 (aR o :: St) S := ev_go i85_15 rfl
theorem i85_16 : insAt 85 16 = some (.iload_n 1, 1, (0, 0, 0, 0), 0) := rfl
theorem s85_16 {c : Nat → List AV → SS → Option Out} {l0 l2 l3 l4 l5 l6 l7 : Option AV} {x : Int32} {L2 : List (Nat × AV)} {St : List AV} {S : SS} : ev c 85 16 [l0, some (aI x), l2, l3, l4, l5, l6, l7] L2 St S = ev c 85 17 [l0, some (aI x), l2, l3, l4, l5, l6, l7] L2 (aI x :: St) S := ev_go i85_16 rfl
theorem i85_17 : insAt 85 17 = some (.iload_n 2, 1, (0, 0, 0, 0), 0) := rfl
theorem s85_17 {c : Nat → List AV → SS → Option Out} {l0 l1 l3 l4 l5 l6 l7 : Option AV} {x : Int32} {L2 : List (Nat × AV)} {St : List AV} {S : SS} : ev c 85 17 [l0, l1, some (aI x), l3, l4, l5, l6, l7] L2 St S = ev c 85 18 [l0, l1, some (aI x), l3, l4, l5, l6, l7] L2 (aI x :: St) S := ev_go i85_17 rfl
theorem i85_18 : insAt 85 18 = some (.iload 5, 2, (0, 0, 0, 0), 0) := rfl
theorem s85_18 {c : Nat → List AV → SS → Option Out} {l0 l1 l2 l3 l4 l6 l7 : Option AV} {x : Int32} {L2 : List (Nat × AV)} {St : List AV} {S : SS} : ev c 85 18 [l0, l1, l2, l3, l4, some (aI x), l6, l7] L2 St S = ev c 85 20 [l0, l1, l2, l3, l4, some (aI x), l6, l7] L2 (aI x :: St) S := ev_go i85_18 rfl
theorem i85_20 : insAt 85 20 = some (.iconst (-1), 1, (0, 0, 0, 0), 0) := rfl
theorem s85_20 {c : Nat → List AV → SS → Option Out} {l0 l1 l2 l3 l4 l5 l6 l7 : Option AV} {L2 : List (Nat × AV)} {St : List AV} {S : SS} : ev c 85 20 [l0, l1, l2, l3, l4, l5, l6, l7] L2 St S = ev c 85 21 [l0, l1, l2, l3, l4, l5, l6, l7] L2 (aI (-1) :: St) S := ev_go i85_20 rfl
theorem i85_21 : insAt 85 21 = some (.invokevirtual 143, 3, (86, 4, 2, 4), 216) := rfl
theorem s85_21 {c : Nat → List AV → SS → Option Out} {l0 l1 l2 l3 l4 l5 l6 l7 : Option AV} {a0 : Int32} {a1 : Int32} {a2 : Int32} {a3 : Int32} {j t : Nat} {L2 : List (Nat × AV)} {S : SS} : ev c 85 21 [l0, l1, l2, l3, l4, l5, l6, l7] L2 [aI a3, aI a2, aI a1, aI a0, aR (4, j, t)] S = ck (c 86 [aR (4, j, t), aI a0, aI a1, aI a2, aI a3] S) (fun v S' => ev c 85 24 [l0, l1, l2, l3, l4, l5, l6, l7] L2 (v.toList ++ []) S') := ev_call i85_21 rfl
theorem i85_24 : insAt 85 24 = some (.istore 6, 2, (0, 0, 0, 0), 0) := rfl
theorem s85_24 {c : Nat → List AV → SS → Option Out} {l0 l1 l2 l3 l4 l5 l6 l7 : Option AV} {x : Int32} {L2 : List (Nat × AV)} {St : List AV} {S : SS} : ev c 85 24 [l0, l1, l2, l3, l4, l5, l6, l7] L2 (aI x :: St) S = ev c 85 26 [l0, l1, l2, l3, l4, l5, some (aI x), l7] (kil L2 6) St S := ev_go i85_24 rfl
theorem i85_26 : insAt 85 26 = some (.iload_n 3, 1, (0, 0, 0, 0), 0) := rfl
theorem s85_26 {c : Nat → List AV → SS → Option Out} {l0 l1 l2 l4 l5 l6 l7 : Option AV} {x : Int32} {L2 : List (Nat × AV)} {St : List AV} {S : SS} : ev c 85 26 [l0, l1, l2, some (aI x), l4, l5, l6, l7] L2 St S = ev c 85 27 [l0, l1, l2, some (aI x), l4, l5, l6, l7] L2 (aI x :: St) S := ev_go i85_26 rfl
theorem i85_27 : insAt 85 27 = some (.iconst (-1), 1, (0, 0, 0, 0), 0) := rfl
theorem s85_27 {c : Nat → List AV → SS → Option Out} {l0 l1 l2 l3 l4 l5 l6 l7 : Option AV} {L2 : List (Nat × AV)} {St : List AV} {S : SS} : ev c 85 27 [l0, l1, l2, l3, l4, l5, l6, l7] L2 St S = ev c 85 28 [l0, l1, l2, l3, l4, l5, l6, l7] L2 (aI (-1) :: St) S := ev_go i85_27 rfl
theorem i85_28 : insAt 85 28 = some (.if_icmp .eq 10, 3, (0, 0, 0, 0), 0) := rfl
theorem s85_28 {c : Nat → List AV → SS → Option Out} {l0 l1 l2 l3 l4 l5 l6 l7 : Option AV} {x y : Int32} {L2 : List (Nat × AV)} {St : List AV} {S : SS} : ev c 85 28 [l0, l1, l2, l3, l4, l5, l6, l7] L2 (aI y :: aI x :: St) S = if x = y then ev c 85 38 [l0, l1, l2, l3, l4, l5, l6, l7] L2 St S else ev c 85 31 [l0, l1, l2, l3, l4, l5, l6, l7] L2 St S := ev_br i85_28 rfl
theorem i85_31 : insAt 85 31 = some (.iload 6, 2, (0, 0, 0, 0), 0) := rfl
theorem s85_31 {c : Nat → List AV → SS → Option Out} {l0 l1 l2 l3 l4 l5 l7 : Option AV} {x : Int32} {L2 : List (Nat × AV)} {St : List AV} {S : SS} : ev c 85 31 [l0, l1, l2, l3, l4, l5, some (aI x), l7] L2 St S = ev c 85 33 [l0, l1, l2, l3, l4, l5, some (aI x), l7] L2 (aI x :: St) S := ev_go i85_31 rfl
theorem i85_33 : insAt 85 33 = some (.iload 4, 2, (0, 0, 0, 0), 0) := rfl
theorem s85_33 {c : Nat → List AV → SS → Option Out} {l0 l1 l2 l3 l5 l6 l7 : Option AV} {x : Int32} {L2 : List (Nat × AV)} {St : List AV} {S : SS} : ev c 85 33 [l0, l1, l2, l3, some (aI x), l5, l6, l7] L2 St S = ev c 85 35 [l0, l1, l2, l3, some (aI x), l5, l6, l7] L2 (aI x :: St) S := ev_go i85_33 rfl
theorem i85_35 : insAt 85 35 = some (.if_icmp .ge 7, 3, (0, 0, 0, 0), 0) := rfl
theorem s85_35 {c : Nat → List AV → SS → Option Out} {l0 l1 l2 l3 l4 l5 l6 l7 : Option AV} {x y : Int32} {L2 : List (Nat × AV)} {St : List AV} {S : SS} : ev c 85 35 [l0, l1, l2, l3, l4, l5, l6, l7] L2 (aI y :: aI x :: St) S = if y ≤ x then ev c 85 42 [l0, l1, l2, l3, l4, l5, l6, l7] L2 St S else ev c 85 38 [l0, l1, l2, l3, l4, l5, l6, l7] L2 St S := ev_br i85_35 rfl
theorem i85_38 : insAt 85 38 = some (.iconst 1, 1, (0, 0, 0, 0), 0) := rfl
theorem s85_38 {c : Nat → List AV → SS → Option Out} {l0 l1 l2 l3 l4 l5 l6 l7 : Option AV} {L2 : List (Nat × AV)} {St : List AV} {S : SS} : ev c 85 38 [l0, l1, l2, l3, l4, l5, l6, l7] L2 St S = ev c 85 39 [l0, l1, l2, l3, l4, l5, l6, l7] L2 (aI 1 :: St) S := ev_go i85_38 rfl
theorem i85_39 : insAt 85 39 = some (.goto 4, 3, (0, 0, 0, 0), 0) := rfl
theorem s85_39 {c : Nat → List AV → SS → Option Out} {l0 l1 l2 l3 l4 l5 l6 l7 : Option AV} {L2 : List (Nat × AV)} {St : List AV} {S : SS} : ev c 85 39 [l0, l1, l2, l3, l4, l5, l6, l7] L2 St S = ev c 85 43 [l0, l1, l2, l3, l4, l5, l6, l7] L2 St S := ev_go i85_39 rfl
theorem i85_42 : insAt 85 42 = some (.iconst 0, 1, (0, 0, 0, 0), 0) := rfl
theorem s85_42 {c : Nat → List AV → SS → Option Out} {l0 l1 l2 l3 l4 l5 l6 l7 : Option AV} {L2 : List (Nat × AV)} {St : List AV} {S : SS} : ev c 85 42 [l0, l1, l2, l3, l4, l5, l6, l7] L2 St S = ev c 85 43 [l0, l1, l2, l3, l4, l5, l6, l7] L2 (aI 0 :: St) S := ev_go i85_42 rfl
theorem i85_43 : insAt 85 43 = some (.istore 7, 2, (0, 0, 0, 0), 0) := rfl
theorem s85_43 {c : Nat → List AV → SS → Option Out} {l0 l1 l2 l3 l4 l5 l6 l7 : Option AV} {x : Int32} {L2 : List (Nat × AV)} {St : List AV} {S : SS} : ev c 85 43 [l0, l1, l2, l3, l4, l5, l6, l7] L2 (aI x :: St) S = ev c 85 45 [l0, l1, l2, l3, l4, l5, l6, some (aI x)] (kil L2 7) St S := ev_go i85_43 rfl
theorem i85_45 : insAt 85 45 = some (.iload 7, 2, (0, 0, 0, 0), 0) := rfl
theorem s85_45 {c : Nat → List AV → SS → Option Out} {l0 l1 l2 l3 l4 l5 l6 : Option AV} {x : Int32} {L2 : List (Nat × AV)} {St : List AV} {S : SS} : ev c 85 45 [l0, l1, l2, l3, l4, l5, l6, some (aI x)] L2 St S = ev c 85 47 [l0, l1, l2, l3, l4, l5, l6, some (aI x)] L2 (aI x :: St) S := ev_go i85_45 rfl
theorem i85_47 : insAt 85 47 = some (.ifCond .eq 21, 3, (0, 0, 0, 0), 0) := rfl
theorem s85_47 {c : Nat → List AV → SS → Option Out} {l0 l1 l2 l3 l4 l5 l6 l7 : Option AV} {x : Int32} {L2 : List (Nat × AV)} {St : List AV} {S : SS} : ev c 85 47 [l0, l1, l2, l3, l4, l5, l6, l7] L2 (aI x :: St) S = if x = 0 then ev c 85 68 [l0, l1, l2, l3, l4, l5, l6, l7] L2 St S else ev c 85 50 [l0, l1, l2, l3, l4, l5, l6, l7] L2 St S := ev_br i85_47 rfl
theorem i85_50 : insAt 85 50 = some (.aload_n 0, 1, (0, 0, 0, 0), 0) := rfl
theorem s85_50 {c : Nat → List AV → SS → Option Out} {l1 l2 l3 l4 l5 l6 l7 : Option AV} {o : OId} {L2 : List (Nat × AV)} {St : List AV} {S : SS} : ev c 85 50 [some (aR o), l1, l2, l3, l4, l5, l6, l7] L2 St S = ev c 85 51 [some (aR o), l1, l2, l3, l4, l5, l6, l7] L2 (aR o :: St) S := ev_go i85_50 rfl
theorem i85_51 : insAt 85 51 = some (.iload_n 1, 1, (0, 0, 0, 0), 0) := rfl
theorem s85_51 {c : Nat → List AV → SS → Option Out} {l0 l2 l3 l4 l5 l6 l7 : Option AV} {x : Int32} {L2 : List (Nat × AV)} {St : List AV} {S : SS} : ev c 85 51 [l0, some (aI x), l2, l3, l4, l5, l6, l7] L2 St S = ev c 85 52 [l0, some (aI x), l2, l3, l4, l5, l6, l7] L2 (aI x :: St) S := ev_go i85_51 rfl
theorem i85_52 : insAt 85 52 = some (.iload_n 2, 1, (0, 0, 0, 0), 0) := rfl
theorem s85_52 {c : Nat → List AV → SS → Option Out} {l0 l1 l3 l4 l5 l6 l7 : Option AV} {x : Int32} {L2 : List (Nat × AV)} {St : List AV} {S : SS} : ev c 85 52 [l0, l1, some (aI x), l3, l4, l5, l6, l7] L2 St S = ev c 85 53 [l0, l1, some (aI x), l3, l4, l5, l6, l7] L2 (aI x :: St) S := ev_go i85_52 rfl
theorem i85_53 : insAt 85 53 = some (.iload 5, 2, (0, 0, 0, 0), 0) := rfl
theorem s85_53 {c : Nat → List AV → SS → Option Out} {l0 l1 l2 l3 l4 l6 l7 : Option AV} {x : Int32} {L2 : List (Nat × AV)} {St : List AV} {S : SS} : ev c 85 53 [l0, l1, l2, l3, l4, some (aI x), l6, l7] L2 St S = ev c 85 55 [l0, l1, l2, l3, l4, some (aI x), l6, l7] L2 (aI x :: St) S := ev_go i85_53 rfl
theorem i85_55 : insAt 85 55 = some (.invokevirtual 147, 3, (87, 3, 2, 4), 217) := rfl
theorem s85_55 {c : Nat → List AV → SS → Option Out} {l0 l1 l2 l3 l4 l5 l6 l7 : Option AV} {a0 : Int32} {a1 : Int32} {a2 : Int32} {j t : Nat} {L2 : List (Nat × AV)} {S : SS} : ev c 85 55 [l0, l1, l2, l3, l4, l5, l6, l7] L2 [aI a2, aI a1, aI a0, aR (4, j, t)] S = ck (c 87 [aR (4, j, t), aI a0, aI a1, aI a2] S) (fun v S' => ev c 85 58 [l0, l1, l2, l3, l4, l5, l6, l7] L2 (v.toList ++ []) S') := ev_call i85_55 rfl
theorem i85_58 : insAt 85 58 = some (.ifCond .ne 10, 3, (0, 0, 0, 0), 0) := rfl
theorem s85_58 {c : Nat → List AV → SS → Option Out} {l0 l1 l2 l3 l4 l5 l6 l7 : Option AV} {x : Int32} {L2 : List (Nat × AV)} {St : List AV} {S : SS} : ev c 85 58 [l0, l1, l2, l3, l4, l5, l6, l7] L2 (aI x :: St) S = if x = 0 then ev c 85 61 [l0, l1, l2, l3, l4, l5, l6, l7] L2 St S else ev c 85 68 [l0, l1, l2, l3, l4, l5, l6, l7] L2 St S := (ev_br i85_58 rfl).trans (ite_not _ _ _)
theorem i85_61 : insAt 85 61 = some (.iload 5, 2, (0, 0, 0, 0), 0) := rfl
theorem s85_61 {c : Nat → List AV → SS → Option Out} {l0 l1 l2 l3 l4 l6 l7 : Option AV} {x : Int32} {L2 : List (Nat × AV)} {St : List AV} {S : SS} : ev c 85 61 [l0, l1, l2, l3, l4, some (aI x), l6, l7] L2 St S = ev c 85 63 [l0, l1, l2, l3, l4, some (aI x), l6, l7] L2 (aI x :: St) S := ev_go i85_61 rfl
theorem i85_63 : insAt 85 63 = some (.istore_n 3, 1, (0, 0, 0, 0), 0) := rfl
theorem s85_63 {c : Nat → List AV → SS → Option Out} {l0 l1 l2 l3 l4 l5 l6 l7 : Option AV} {x : Int32} {L2 : List (Nat × AV)} {St : List AV} {S : SS} : ev c 85 63 [l0, l1, l2, l3, l4, l5, l6, l7] L2 (aI x :: St) S = ev c 85 64 [l0, l1, l2, some (aI x), l4, l5, l6, l7] (kil L2 3) St S := ev_go i85_63 rfl
theorem i85_64 : insAt 85 64 = some (.iload 6, 2, (0, 0, 0, 0), 0) := rfl
theorem s85_64 {c : Nat → List AV → SS → Option Out} {l0 l1 l2 l3 l4 l5 l7 : Option AV} {x : Int32} {L2 : List (Nat × AV)} {St : List AV} {S : SS} : ev c 85 64 [l0, l1, l2, l3, l4, l5, some (aI x), l7] L2 St S = ev c 85 66 [l0, l1, l2, l3, l4, l5, some (aI x), l7] L2 (aI x :: St) S := ev_go i85_64 rfl
theorem i85_66 : insAt 85 66 = some (.istore 4, 2, (0, 0, 0, 0), 0) := rfl
theorem s85_66 {c : Nat → List AV → SS → Option Out} {l0 l1 l2 l3 l4 l5 l6 l7 : Option AV} {x : Int32} {L2 : List (Nat × AV)} {St : List AV} {S : SS} : ev c 85 66 [l0, l1, l2, l3, l4, l5, l6, l7] L2 (aI x :: St) S = ev c 85 68 [l0, l1, l2, l3, some (aI x), l5, l6, l7] (kil L2 4) St S := ev_go i85_66 rfl
theorem i85_68 : insAt 85 68 = some (.iinc 5 1, 3, (0, 0, 0, 0), 0) := rfl
theorem s85_68 {c : Nat → List AV → SS → Option Out} {l0 l1 l2 l3 l4 l6 l7 : Option AV} {x : Int32} {L2 : List (Nat × AV)} {St : List AV} {S : SS} : ev c 85 68 [l0, l1, l2, l3, l4, some (aI x), l6, l7] L2 St S = ev c 85 71 [l0, l1, l2, l3, l4, some (aI (x + 1)), l6, l7] (kil L2 5) St S := ev_go i85_68 rfl
theorem i85_71 : insAt 85 71 = some (.goto (-63), 3, (0, 0, 0, 0), 0) := rfl
theorem s85_71 {c : Nat → List AV → SS → Option Out} {l0 l1 l2 l3 l4 l5 l6 l7 : Option AV} {L2 : List (Nat × AV)} {St : List AV} {S : SS} : ev c 85 71 [l0, l1, l2, l3, l4, l5, l6, l7] L2 St S = ev c 85 8 [l0, l1, l2, l3, l4, l5, l6, l7] L2 St S := ev_go i85_71 rfl
theorem i85_74 : insAt 85 74 = some (.iload_n 3, 1, (0, 0, 0, 0), 0) := rfl
theorem s85_74 {c : Nat → List AV → SS → Option Out} {l0 l1 l2 l4 l5 l6 l7 : Option AV} {x : Int32} {L2 : List (Nat × AV)} {St : List AV} {S : SS} : ev c 85 74 [l0, l1, l2, some (aI x), l4, l5, l6, l7] L2 St S = ev c 85 75 [l0, l1, l2, some (aI x), l4, l5, l6, l7] L2 (aI x :: St) S := ev_go i85_74 rfl
theorem i85_75 : insAt 85 75 = some (.ireturn, 1, (0, 0, 0, 0), 0) := rfl
theorem s85_75 {c : Nat → List AV → SS → Option Out} {l0 l1 l2 l3 l4 l5 l6 l7 : Option AV} {x : Int32} {L2 : List (Nat × AV)} {S : SS} : ev c 85 75 [l0, l1, l2, l3, l4, l5, l6, l7] L2 [aI x] S = some (.inl (some (aI x)), S) := ev_end i85_75 rfl
theorem m85 {d : Nat} {o : OId} {a0 : Int32} {a1 : Int32} {S : SS} : evm (d + 1) 85 [aR o, aI a0, aI a1] S = ev (evm d) 85 0 [some (aR o), some (aI a0), some (aI a1), none, none, none, none, none] [] [] S := evm_s (n := 8) rfl (Nat.le_of_ble_eq_true rfl) rfl rfl
/-! FrequencyOffice$Books.disturbance(IIII)I -/
theorem i86_0 : insAt 86 0 = some (.iconst 0, 1, (0, 0, 0, 0), 0) := rfl
theorem s86_0 {c : Nat → List AV → SS → Option Out} {l0 l1 l2 l3 l4 l5 l6 l7 : Option AV} {L2 : List (Nat × AV)} {St : List AV} {S : SS} : ev c 86 0 [l0, l1, l2, l3, l4, l5, l6, l7] L2 St S = ev c 86 1 [l0, l1, l2, l3, l4, l5, l6, l7] L2 (aI 0 :: St) S := ev_go i86_0 rfl
theorem i86_1 : insAt 86 1 = some (.istore 5, 2, (0, 0, 0, 0), 0) := rfl
theorem s86_1 {c : Nat → List AV → SS → Option Out} {l0 l1 l2 l3 l4 l5 l6 l7 : Option AV} {x : Int32} {L2 : List (Nat × AV)} {St : List AV} {S : SS} : ev c 86 1 [l0, l1, l2, l3, l4, l5, l6, l7] L2 (aI x :: St) S = ev c 86 3 [l0, l1, l2, l3, l4, some (aI x), l6, l7] (kil L2 5) St S := ev_go i86_1 rfl
theorem i86_3 : insAt 86 3 = some (.iconst 0, 1, (0, 0, 0, 0), 0) := rfl
theorem s86_3 {c : Nat → List AV → SS → Option Out} {l0 l1 l2 l3 l4 l5 l6 l7 : Option AV} {L2 : List (Nat × AV)} {St : List AV} {S : SS} : ev c 86 3 [l0, l1, l2, l3, l4, l5, l6, l7] L2 St S = ev c 86 4 [l0, l1, l2, l3, l4, l5, l6, l7] L2 (aI 0 :: St) S := ev_go i86_3 rfl
theorem i86_4 : insAt 86 4 = some (.istore 6, 2, (0, 0, 0, 0), 0) := rfl
theorem s86_4 {c : Nat → List AV → SS → Option Out} {l0 l1 l2 l3 l4 l5 l6 l7 : Option AV} {x : Int32} {L2 : List (Nat × AV)} {St : List AV} {S : SS} : ev c 86 4 [l0, l1, l2, l3, l4, l5, l6, l7] L2 (aI x :: St) S = ev c 86 6 [l0, l1, l2, l3, l4, l5, some (aI x), l7] (kil L2 6) St S := ev_go i86_4 rfl
theorem i86_6 : insAt 86 6 = some (.iload 6, 2, (0, 0, 0, 0), 0) := rfl
theorem s86_6 {c : Nat → List AV → SS → Option Out} {l0 l1 l2 l3 l4 l5 l7 : Option AV} {x : Int32} {L2 : List (Nat × AV)} {St : List AV} {S : SS} : ev c 86 6 [l0, l1, l2, l3, l4, l5, some (aI x), l7] L2 St S = ev c 86 8 [l0, l1, l2, l3, l4, l5, some (aI x), l7] L2 (aI x :: St) S := ev_go i86_6 rfl
theorem i86_8 : insAt 86 8 = some (.aload_n 0, 1, (0, 0, 0, 0), 0) := rfl
theorem s86_8 {c : Nat → List AV → SS → Option Out} {l1 l2 l3 l4 l5 l6 l7 : Option AV} {o : OId} {L2 : List (Nat × AV)} {St : List AV} {S : SS} : ev c 86 8 [some (aR o), l1, l2, l3, l4, l5, l6, l7] L2 St S = ev c 86 9 [some (aR o), l1, l2, l3, l4, l5, l6, l7] L2 (aR o :: St) S := ev_go i86_8 rfl
theorem i86_9 : insAt 86 9 = some (.getfield 33, 3, (4, 7, 0, 0), 28) := rfl
theorem s86_9 {c : Nat → List AV → SS → Option Out} {l0 l1 l2 l3 l4 l5 l6 l7 : Option AV} {j t : Nat} {L2 : List (Nat × AV)} {St : List AV} {S : SS} : ev c 86 9 [l0, l1, l2, l3, l4, l5, l6, l7] L2 (aR (4, j, t) :: St) S = ev c 86 12 [l0, l1, l2, l3, l4, l5, l6, l7] L2 (aI (S.1 (4, j, t) 7) :: St) S := ev_go i86_9 rfl
theorem i86_12 : insAt 86 12 = some (.if_icmp .ge 65, 3, (0, 0, 0, 0), 0) := rfl
theorem s86_12 {c : Nat → List AV → SS → Option Out} {l0 l1 l2 l3 l4 l5 l6 l7 : Option AV} {x y : Int32} {L2 : List (Nat × AV)} {St : List AV} {S : SS} : ev c 86 12 [l0, l1, l2, l3, l4, l5, l6, l7] L2 (aI y :: aI x :: St) S = if y ≤ x then ev c 86 77 [l0, l1, l2, l3, l4, l5, l6, l7] L2 St S else ev c 86 15 [l0, l1, l2, l3, l4, l5, l6, l7] L2 St S := ev_br i86_12 rfl
theorem i86_15 : insAt 86 15 = some (.aload_n 0, 1, (0, 0, 0, 0), 0) := rfl
theorem s86_15 {c : Nat → List AV → SS → Option Out} {l1 l2 l3 l4 l5 l6 l7 : Option AV} {o : OId} {L2 : List (Nat × AV)} {St : List AV} {S : SS} : ev c 86 15 [some (aR o), l1, l2, l3, l4, l5, l6, l7] L2 St S = ev c 86 16 [some (aR o), l1, l2, l3, l4, l5, l6, l7] L2 (aR o :: St) S := ev_go i86_15 rfl
theorem i86_16 : insAt 86 16 = some (.iload 6, 2, (0, 0, 0, 0), 0) := rfl
theorem s86_16 {c : Nat → List AV → SS → Option Out} {l0 l1 l2 l3 l4 l5 l7 : Option AV} {x : Int32} {L2 : List (Nat × AV)} {St : List AV} {S : SS} : ev c 86 16 [l0, l1, l2, l3, l4, l5, some (aI x), l7] L2 St S = ev c 86 18 [l0, l1, l2, l3, l4, l5, some (aI x), l7] L2 (aI x :: St) S := ev_go i86_16 rfl
theorem i86_18 : insAt 86 18 = some (.invokevirtual 58, 3, (17, 1, 2, 4), 81) := rfl
theorem s86_18 {c : Nat → List AV → SS → Option Out} {l0 l1 l2 l3 l4 l5 l6 l7 : Option AV} {a0 : Int32} {j t : Nat} {L2 : List (Nat × AV)} {S : SS} : ev c 86 18 [l0, l1, l2, l3, l4, l5, l6, l7] L2 [aI a0, aR (4, j, t)] S = ck (c 17 [aR (4, j, t), aI a0] S) (fun v S' => ev c 86 21 [l0, l1, l2, l3, l4, l5, l6, l7] L2 (v.toList ++ []) S') := ev_call i86_18 rfl
theorem i86_21 : insAt 86 21 = some (.astore 7, 2, (0, 0, 0, 0), 0) := rfl
theorem s86_21 {c : Nat → List AV → SS → Option Out} {l0 l1 l2 l3 l4 l5 l6 l7 : Option AV} {o : OId} {L2 : List (Nat × AV)} {St : List AV} {S : SS} : ev c 86 21 [l0, l1, l2, l3, l4, l5, l6, l7] L2 (aR o :: St) S = ev c 86 23 [l0, l1, l2, l3, l4, l5, l6, some (aR o)] (kil L2 7) St S := ev_go i86_21 rfl
theorem i86_23 : insAt 86 23 = some (.iload 6, 2, (0, 0, 0, 0), 0) := rfl
theorem s86_23 {c : Nat → List AV → SS → Option Out} {l0 l1 l2 l3 l4 l5 l7 : Option AV} {x : Int32} {L2 : List (Nat × AV)} {St : List AV} {S : SS} : ev c 86 23 [l0, l1, l2, l3, l4, l5, some (aI x), l7] L2 St S = ev c 86 25 [l0, l1, l2, l3, l4, l5, some (aI x), l7] L2 (aI x :: St) S := ev_go i86_23 rfl
theorem i86_25 : insAt 86 25 = some (.iload 4, 2, (0, 0, 0, 0), 0) := rfl
theorem s86_25 {c : Nat → List AV → SS → Option Out} {l0 l1 l2 l3 l5 l6 l7 : Option AV} {x : Int32} {L2 : List (Nat × AV)} {St : List AV} {S : SS} : ev c 86 25 [l0, l1, l2, l3, some (aI x), l5, l6, l7] L2 St S = ev c 86 27 [l0, l1, l2, l3, some (aI x), l5, l6, l7] L2 (aI x :: St) S := ev_go i86_25 rfl
theorem i86_27 : insAt 86 27 = some (.if_icmp .eq 44, 3, (0, 0, 0, 0), 0) := rfl
theorem s86_27 {c : Nat → List AV → SS → Option Out} {l0 l1 l2 l3 l4 l5 l6 l7 : Option AV} {x y : Int32} {L2 : List (Nat × AV)} {St : List AV} {S : SS} : ev c 86 27 [l0, l1, l2, l3, l4, l5, l6, l7] L2 (aI y :: aI x :: St) S = if x = y then ev c 86 71 [l0, l1, l2, l3, l4, l5, l6, l7] L2 St S else ev c 86 30 [l0, l1, l2, l3, l4, l5, l6, l7] L2 St S := ev_br i86_27 rfl
theorem i86_30 : insAt 86 30 = some (.aload 7, 2, (0, 0, 0, 0), 0) := rfl
theorem s86_30 {c : Nat → List AV → SS → Option Out} {l0 l1 l2 l3 l4 l5 l6 : Option AV} {o : OId} {L2 : List (Nat × AV)} {St : List AV} {S : SS} : ev c 86 30 [l0, l1, l2, l3, l4, l5, l6, some (aR o)] L2 St S = ev c 86 32 [l0, l1, l2, l3, l4, l5, l6, some (aR o)] L2 (aR o :: St) S := ev_go i86_30 rfl
theorem i86_32 : insAt 86 32 = some (.getfield 87, 3, (10, 5, 1, 0), 82) := rfl
theorem s86_32 {c : Nat → List AV → SS → Option Out} {l0 l1 l2 l3 l4 l5 l6 l7 : Option AV} {j t : Nat} {L2 : List (Nat × AV)} {St : List AV} {S : SS} : ev c 86 32 [l0, l1, l2, l3, l4, l5, l6, l7] L2 (aR (10, j, t) :: St) S = ev c 86 35 [l0, l1, l2, l3, l4, l5, l6, l7] L2 (aI (bb (S.1 (10, j, t) 5)) :: St) S := ev_go i86_32 rfl
theorem i86_35 : insAt 86 35 = some (.ifCond .ne 36, 3, (0, 0, 0, 0), 0) := rfl
theorem s86_35 {c : Nat → List AV → SS → Option Out} {l0 l1 l2 l3 l4 l5 l6 l7 : Option AV} {x : Int32} {L2 : List (Nat × AV)} {St : List AV} {S : SS} : ev c 86 35 [l0, l1, l2, l3, l4, l5, l6, l7] L2 (aI x :: St) S = if x = 0 then ev c 86 38 [l0, l1, l2, l3, l4, l5, l6, l7] L2 St S else ev c 86 71 [l0, l1, l2, l3, l4, l5, l6, l7] L2 St S := (ev_br i86_35 rfl).trans (ite_not _ _ _)
theorem i86_38 : insAt 86 38 = some (.aload 7, 2, (0, 0, 0, 0), 0) := rfl
theorem s86_38 {c : Nat → List AV → SS → Option Out} {l0 l1 l2 l3 l4 l5 l6 : Option AV} {o : OId} {L2 : List (Nat × AV)} {St : List AV} {S : SS} : ev c 86 38 [l0, l1, l2, l3, l4, l5, l6, some (aR o)] L2 St S = ev c 86 40 [l0, l1, l2, l3, l4, l5, l6, some (aR o)] L2 (aR o :: St) S := ev_go i86_38 rfl
theorem i86_40 : insAt 86 40 = some (.iload_n 1, 1, (0, 0, 0, 0), 0) := rfl
theorem s86_40 {c : Nat → List AV → SS → Option Out} {l0 l2 l3 l4 l5 l6 l7 : Option AV} {x : Int32} {L2 : List (Nat × AV)} {St : List AV} {S : SS} : ev c 86 40 [l0, some (aI x), l2, l3, l4, l5, l6, l7] L2 St S = ev c 86 41 [l0, some (aI x), l2, l3, l4, l5, l6, l7] L2 (aI x :: St) S := ev_go i86_40 rfl
theorem i86_41 : insAt 86 41 = some (.iload_n 2, 1, (0, 0, 0, 0), 0) := rfl
theorem s86_41 {c : Nat → List AV → SS → Option Out} {l0 l1 l3 l4 l5 l6 l7 : Option AV} {x : Int32} {L2 : List (Nat × AV)} {St : List AV} {S : SS} : ev c 86 41 [l0, l1, some (aI x), l3, l4, l5, l6, l7] L2 St S = ev c 86 42 [l0, l1, some (aI x), l3, l4, l5, l6, l7] L2 (aI x :: St) S := ev_go i86_41 rfl
theorem i86_42 : insAt 86 42 = some (.invokevirtual 113, 3, (27, 2, 3, 10), 98) := rfl
theorem s86_42 {c : Nat → List AV → SS → Option Out} {l0 l1 l2 l3 l4 l5 l6 l7 : Option AV} {a0 : Int32} {a1 : Int32} {j t : Nat} {L2 : List (Nat × AV)} {S : SS} : ev c 86 42 [l0, l1, l2, l3, l4, l5, l6, l7] L2 [aI a1, aI a0, aR (10, j, t)] S = ck (c 27 [aR (10, j, t), aI a0, aI a1] S) (fun v S' => ev c 86 45 [l0, l1, l2, l3, l4, l5, l6, l7] L2 (v.toList ++ []) S') := ev_call i86_42 rfl
theorem i86_45 : insAt 86 45 = some (.aload_n 0, 1, (0, 0, 0, 0), 0) := rfl
theorem s86_45 {c : Nat → List AV → SS → Option Out} {l1 l2 l3 l4 l5 l6 l7 : Option AV} {o : OId} {L2 : List (Nat × AV)} {St : List AV} {S : SS} : ev c 86 45 [some (aR o), l1, l2, l3, l4, l5, l6, l7] L2 St S = ev c 86 46 [some (aR o), l1, l2, l3, l4, l5, l6, l7] L2 (aR o :: St) S := ev_go i86_45 rfl
theorem i86_46 : insAt 86 46 = some (.getfield 18, 3, (4, 2, 0, 0), 23) := rfl
theorem s86_46 {c : Nat → List AV → SS → Option Out} {l0 l1 l2 l3 l4 l5 l6 l7 : Option AV} {j t : Nat} {L2 : List (Nat × AV)} {St : List AV} {S : SS} : ev c 86 46 [l0, l1, l2, l3, l4, l5, l6, l7] L2 (aR (4, j, t) :: St) S = ev c 86 49 [l0, l1, l2, l3, l4, l5, l6, l7] L2 (aI (S.1 (4, j, t) 2) :: St) S := ev_go i86_46 rfl
theorem i86_49 : insAt 86 49 = some (.aload_n 0, 1, (0, 0, 0, 0), 0) := rfl
theorem s86_49 {c : Nat → List AV → SS → Option Out} {l1 l2 l3 l4 l5 l6 l7 : Option AV} {o : OId} {L2 : List (Nat × AV)} {St : List AV} {S : SS} : ev c 86 49 [some (aR o), l1, l2, l3, l4, l5, l6, l7] L2 St S = ev c 86 50 [some (aR o), l1, l2, l3, l4, l5, l6, l7] L2 (aR o :: St) S := ev_go i86_49 rfl
theorem i86_50 : insAt 86 50 = some (.getfield 18, 3, (4, 2, 0, 0), 23) := rfl
theorem s86_50 {c : Nat → List AV → SS → Option Out} {l0 l1 l2 l3 l4 l5 l6 l7 : Option AV} {j t : Nat} {L2 : List (Nat × AV)} {St : List AV} {S : SS} : ev c 86 50 [l0, l1, l2, l3, l4, l5, l6, l7] L2 (aR (4, j, t) :: St) S = ev c 86 53 [l0, l1, l2, l3, l4, l5, l6, l7] L2 (aI (S.1 (4, j, t) 2) :: St) S := ev_go i86_50 rfl
theorem i86_53 : insAt 86 53 = some (.imul, 1, (0, 0, 0, 0), 0) := rfl
theorem s86_53 {c : Nat → List AV → SS → Option Out} {l0 l1 l2 l3 l4 l5 l6 l7 : Option AV} {x y : Int32} {L2 : List (Nat × AV)} {St : List AV} {S : SS} : ev c 86 53 [l0, l1, l2, l3, l4, l5, l6, l7] L2 (aI y :: aI x :: St) S = ev c 86 54 [l0, l1, l2, l3, l4, l5, l6, l7] L2 (aI (x * y) :: St) S := ev_go i86_53 rfl
theorem i86_54 : insAt 86 54 = some (.if_icmp .ge 17, 3, (0, 0, 0, 0), 0) := rfl
theorem s86_54 {c : Nat → List AV → SS → Option Out} {l0 l1 l2 l3 l4 l5 l6 l7 : Option AV} {x y : Int32} {L2 : List (Nat × AV)} {St : List AV} {S : SS} : ev c 86 54 [l0, l1, l2, l3, l4, l5, l6, l7] L2 (aI y :: aI x :: St) S = if y ≤ x then ev c 86 71 [l0, l1, l2, l3, l4, l5, l6, l7] L2 St S else ev c 86 57 [l0, l1, l2, l3, l4, l5, l6, l7] L2 St S := ev_br i86_54 rfl
theorem i86_57 : insAt 86 57 = some (.iload 5, 2, (0, 0, 0, 0), 0) := rfl
theorem s86_57 {c : Nat → List AV → SS → Option Out} {l0 l1 l2 l3 l4 l6 l7 : Option AV} {x : Int32} {L2 : List (Nat × AV)} {St : List AV} {S : SS} : ev c 86 57 [l0, l1, l2, l3, l4, some (aI x), l6, l7] L2 St S = ev c 86 59 [l0, l1, l2, l3, l4, some (aI x), l6, l7] L2 (aI x :: St) S := ev_go i86_57 rfl
theorem i86_59 : insAt 86 59 = some (.aload 7, 2, (0, 0, 0, 0), 0) := rfl
theorem s86_59 {c : Nat → List AV → SS → Option Out} {l0 l1 l2 l3 l4 l5 l6 : Option AV} {o : OId} {L2 : List (Nat × AV)} {St : List AV} {S : SS} : ev c 86 59 [l0, l1, l2, l3, l4, l5, l6, some (aR o)] L2 St S = ev c 86 61 [l0, l1, l2, l3, l4, l5, l6, some (aR o)] L2 (aR o :: St) S := ev_go i86_59 rfl
theorem i86_61 : insAt 86 61 = some (.getfield 126, 3, (10, 3, 1, 0), 91) := rfl
theorem s86_61 {c : Nat → List AV → SS → Option Out} {l0 l1 l2 l3 l4 l5 l6 l7 : Option AV} {j t : Nat} {L2 : List (Nat × AV)} {St : List AV} {S : SS} : ev c 86 61 [l0, l1, l2, l3, l4, l5, l6, l7] L2 (aR (10, j, t) :: St) S = ev c 86 64 [l0, l1, l2, l3, l4, l5, l6, l7] L2 (aI (S.1 (10, j, t) 3) :: St) S := ev_go i86_61 rfl
theorem i86_64 : insAt 86 64 = some (.iload_n 3, 1, (0, 0, 0, 0), 0) := rfl
theorem s86_64 {c : Nat → List AV → SS → Option Out} {l0 l1 l2 l4 l5 l6 l7 : Option AV} {x : Int32} {L2 : List (Nat × AV)} {St : List AV} {S : SS} : ev c 86 64 [l0, l1, l2, some (aI x), l4, l5, l6, l7] L2 St S = ev c 86 65 [l0, l1, l2, some (aI x), l4, l5, l6, l7] L2 (aI x :: St) S := ev_go i86_64 rfl
theorem i86_65 : insAt 86 65 = some (.invokestatic 140, 3, (74, 2, 1, 0), 218) := rfl
theorem s86_65 {c : Nat → List AV → SS → Option Out} {l0 l1 l2 l3 l4 l5 l6 l7 : Option AV} {t0 : AV} {a0 : Int32} {a1 : Int32} {L2 : List (Nat × AV)} {S : SS} : ev c 86 65 [l0, l1, l2, l3, l4, l5, l6, l7] L2 [aI a1, aI a0, t0] S = ck (c 74 [aI a0, aI a1] S) (fun v S' => ev c 86 68 [l0, l1, l2, l3, l4, l5, l6, l7] L2 (v.toList ++ [t0]) S') := ev_call i86_65 rfl
theorem i86_68 : insAt 86 68 = some (.iadd, 1, (0, 0, 0, 0), 0) := rfl
theorem s86_68 {c : Nat → List AV → SS → Option Out} {l0 l1 l2 l3 l4 l5 l6 l7 : Option AV} {x y : Int32} {L2 : List (Nat × AV)} {St : List AV} {S : SS} : ev c 86 68 [l0, l1, l2, l3, l4, l5, l6, l7] L2 (aI y :: aI x :: St) S = ev c 86 69 [l0, l1, l2, l3, l4, l5, l6, l7] L2 (aI (x + y) :: St) S := ev_go i86_68 rfl
theorem i86_69 : insAt 86 69 = some (.istore 5, 2, (0, 0, 0, 0), 0) := rfl
theorem s86_69 {c : Nat → List AV → SS → Option Out} {l0 l1 l2 l3 l4 l5 l6 l7 : Option AV} {x : Int32} {L2 : List (Nat × AV)} {St : List AV} {S : SS} : ev c 86 69 [l0, l1, l2, l3, l4, l5, l6, l7] L2 (aI x :: St) S = ev c 86 71 [l0, l1, l2, l3, l4, some (aI x), l6, l7] (kil L2 5) St S := ev_go i86_69 rfl
theorem i86_71 : insAt 86 71 = some (.iinc 6 1, 3, (0, 0, 0, 0), 0) := rfl
theorem s86_71 {c : Nat → List AV → SS → Option Out} {l0 l1 l2 l3 l4 l5 l7 : Option AV} {x : Int32} {L2 : List (Nat × AV)} {St : List AV} {S : SS} : ev c 86 71 [l0, l1, l2, l3, l4, l5, some (aI x), l7] L2 St S = ev c 86 74 [l0, l1, l2, l3, l4, l5, some (aI (x + 1)), l7] (kil L2 6) St S := ev_go i86_71 rfl
theorem i86_74 : insAt 86 74 = some (.goto (-68), 3, (0, 0, 0, 0), 0) := rfl
theorem s86_74 {c : Nat → List AV → SS → Option Out} {l0 l1 l2 l3 l4 l5 l6 l7 : Option AV} {L2 : List (Nat × AV)} {St : List AV} {S : SS} : ev c 86 74 [l0, l1, l2, l3, l4, l5, l6, l7] L2 St S = ev c 86 6 [l0, l1, l2, l3, l4, l5, l6, l7] L2 St S := ev_go i86_74 rfl
theorem i86_77 : insAt 86 77 = some (.iload 5, 2, (0, 0, 0, 0), 0) := rfl
theorem s86_77 {c : Nat → List AV → SS → Option Out} {l0 l1 l2 l3 l4 l6 l7 : Option AV} {x : Int32} {L2 : List (Nat × AV)} {St : List AV} {S : SS} : ev c 86 77 [l0, l1, l2, l3, l4, some (aI x), l6, l7] L2 St S = ev c 86 79 [l0, l1, l2, l3, l4, some (aI x), l6, l7] L2 (aI x :: St) S := ev_go i86_77 rfl
theorem i86_79 : insAt 86 79 = some (.ireturn, 1, (0, 0, 0, 0), 0) := rfl
theorem s86_79 {c : Nat → List AV → SS → Option Out} {l0 l1 l2 l3 l4 l5 l6 l7 : Option AV} {x : Int32} {L2 : List (Nat × AV)} {S : SS} : ev c 86 79 [l0, l1, l2, l3, l4, l5, l6, l7] L2 [aI x] S = some (.inl (some (aI x)), S) := ev_end i86_79 rfl
theorem m86 {d : Nat} {o : OId} {a0 : Int32} {a1 : Int32} {a2 : Int32} {a3 : Int32} {S : SS} : evm (d + 1) 86 [aR o, aI a0, aI a1, aI a2, aI a3] S = ev (evm d) 86 0 [some (aR o), some (aI a0), some (aI a1), some (aI a2), some (aI a3), none, none, none] [] [] S := evm_s (n := 8) rfl (Nat.le_of_ble_eq_true rfl) rfl rfl
/-! FrequencyOffice$Books.countConflicts(III)I -/
theorem i87_0 : insAt 87 0 = some (.iconst 0, 1, (0, 0, 0, 0), 0) := rfl
theorem s87_0 {c : Nat → List AV → SS → Option Out} {l0 l1 l2 l3 l4 l5 l6 : Option AV} {L2 : List (Nat × AV)} {St : List AV} {S : SS} : ev c 87 0 [l0, l1, l2, l3, l4, l5, l6] L2 St S = ev c 87 1 [l0, l1, l2, l3, l4, l5, l6] L2 (aI 0 :: St) S := ev_go i87_0 rfl
theorem i87_1 : insAt 87 1 = some (.istore 4, 2, (0, 0, 0, 0), 0) := rfl
theorem s87_1 {c : Nat → List AV → SS → Option Out} {l0 l1 l2 l3 l4 l5 l6 : Option AV} {x : Int32} {L2 : List (Nat × AV)} {St : List AV} {S : SS} : ev c 87 1 [l0, l1, l2, l3, l4, l5, l6] L2 (aI x :: St) S = ev c 87 3 [l0, l1, l2, l3, some (aI x), l5, l6] (kil L2 4) St S := ev_go i87_1 rfl
theorem i87_3 : insAt 87 3 = some (.iconst 0, 1, (0, 0, 0, 0), 0) := rfl
theorem s87_3 {c : Nat → List AV → SS → Option Out} {l0 l1 l2 l3 l4 l5 l6 : Option AV} {L2 : List (Nat × AV)} {St : List AV} {S : SS} : ev c 87 3 [l0, l1, l2, l3, l4, l5, l6] L2 St S = ev c 87 4 [l0, l1, l2, l3, l4, l5, l6] L2 (aI 0 :: St) S := ev_go i87_3 rfl
theorem i87_4 : insAt 87 4 = some (.istore 5, 2, (0, 0, 0, 0), 0) := rfl
theorem s87_4 {c : Nat → List AV → SS → Option Out} {l0 l1 l2 l3 l4 l5 l6 : Option AV} {x : Int32} {L2 : List (Nat × AV)} {St : List AV} {S : SS} : ev c 87 4 [l0, l1, l2, l3, l4, l5, l6] L2 (aI x :: St) S = ev c 87 6 [l0, l1, l2, l3, l4, some (aI x), l6] (kil L2 5) St S := ev_go i87_4 rfl
theorem i87_6 : insAt 87 6 = some (.iload 5, 2, (0, 0, 0, 0), 0) := rfl
theorem s87_6 {c : Nat → List AV → SS → Option Out} {l0 l1 l2 l3 l4 l6 : Option AV} {x : Int32} {L2 : List (Nat × AV)} {St : List AV} {S : SS} : ev c 87 6 [l0, l1, l2, l3, l4, some (aI x), l6] L2 St S = ev c 87 8 [l0, l1, l2, l3, l4, some (aI x), l6] L2 (aI x :: St) S := ev_go i87_6 rfl
theorem i87_8 : insAt 87 8 = some (.aload_n 0, 1, (0, 0, 0, 0), 0) := rfl
theorem s87_8 {c : Nat → List AV → SS → Option Out} {l1 l2 l3 l4 l5 l6 : Option AV} {o : OId} {L2 : List (Nat × AV)} {St : List AV} {S : SS} : ev c 87 8 [some (aR o), l1, l2, l3, l4, l5, l6] L2 St S = ev c 87 9 [some (aR o), l1, l2, l3, l4, l5, l6] L2 (aR o :: St) S := ev_go i87_8 rfl
theorem i87_9 : insAt 87 9 = some (.getfield 33, 3, (4, 7, 0, 0), 28) := rfl
theorem s87_9 {c : Nat → List AV → SS → Option Out} {l0 l1 l2 l3 l4 l5 l6 : Option AV} {j t : Nat} {L2 : List (Nat × AV)} {St : List AV} {S : SS} : ev c 87 9 [l0, l1, l2, l3, l4, l5, l6] L2 (aR (4, j, t) :: St) S = ev c 87 12 [l0, l1, l2, l3, l4, l5, l6] L2 (aI (S.1 (4, j, t) 7) :: St) S := ev_go i87_9 rfl
theorem i87_12 : insAt 87 12 = some (.if_icmp .ge 55, 3, (0, 0, 0, 0), 0) := rfl
theorem s87_12 {c : Nat → List AV → SS → Option Out} {l0 l1 l2 l3 l4 l5 l6 : Option AV} {x y : Int32} {L2 : List (Nat × AV)} {St : List AV} {S : SS} : ev c 87 12 [l0, l1, l2, l3, l4, l5, l6] L2 (aI y :: aI x :: St) S = if y ≤ x then ev c 87 67 [l0, l1, l2, l3, l4, l5, l6] L2 St S else ev c 87 15 [l0, l1, l2, l3, l4, l5, l6] L2 St S := ev_br i87_12 rfl
theorem i87_15 : insAt 87 15 = some (.aload_n 0, 1, (0, 0, 0, 0), 0) := rfl
theorem s87_15 {c : Nat → List AV → SS → Option Out} {l1 l2 l3 l4 l5 l6 : Option AV} {o : OId} {L2 : List (Nat × AV)} {St : List AV} {S : SS} : ev c 87 15 [some (aR o), l1, l2, l3, l4, l5, l6] L2 St S = ev c 87 16 [some (aR o), l1, l2, l3, l4, l5, l6] L2 (aR o :: St) S := ev_go i87_15 rfl
theorem i87_16 : insAt 87 16 = some (.aload_n 0, 1, (0, 0, 0, 0), 0) := rfl
theorem s87_16 {c : Nat → List AV → SS → Option Out} {l1 l2 l3 l4 l5 l6 : Option AV} {o : OId} {L2 : List (Nat × AV)} {St : List AV} {S : SS} : ev c 87 16 [some (aR o), l1, l2, l3, l4, l5, l6] L2 St S = ev c 87 17 [some (aR o), l1, l2, l3, l4, l5, l6] L2 (aR o :: St) S := ev_go i87_16 rfl
theorem i87_17 : insAt 87 17 = some (.iload 5, 2, (0, 0, 0, 0), 0) := rfl
theorem s87_17 {c : Nat → List AV → SS → Option Out} {l0 l1 l2 l3 l4 l6 : Option AV} {x : Int32} {L2 : List (Nat × AV)} {St : List AV} {S : SS} : ev c 87 17 [l0, l1, l2, l3, l4, some (aI x), l6] L2 St S = ev c 87 19 [l0, l1, l2, l3, l4, some (aI x), l6] L2 (aI x :: St) S := ev_go i87_17 rfl
theorem i87_19 : insAt 87 19 = some (.invokevirtual 58, 3, (17, 1, 2, 4), 81) := rfl
theorem s87_19 {c : Nat → List AV → SS → Option Out} {l0 l1 l2 l3 l4 l5 l6 : Option AV} {t0 : AV} {a0 : Int32} {j t : Nat} {L2 : List (Nat × AV)} {S : SS} : ev c 87 19 [l0, l1, l2, l3, l4, l5, l6] L2 [aI a0, aR (4, j, t), t0] S = ck (c 17 [aR (4, j, t), aI a0] S) (fun v S' => ev c 87 22 [l0, l1, l2, l3, l4, l5, l6] L2 (v.toList ++ [t0]) S') := ev_call i87_19 rfl
theorem i87_22 : insAt 87 22 = some (.iload_n 1, 1, (0, 0, 0, 0), 0) := rfl
theorem s87_22 {c : Nat → List AV → SS → Option Out} {l0 l2 l3 l4 l5 l6 : Option AV} {x : Int32} {L2 : List (Nat × AV)} {St : List AV} {S : SS} : ev c 87 22 [l0, some (aI x), l2, l3, l4, l5, l6] L2 St S = ev c 87 23 [l0, some (aI x), l2, l3, l4, l5, l6] L2 (aI x :: St) S := ev_go i87_22 rfl
theorem i87_23 : insAt 87 23 = some (.iload_n 2, 1, (0, 0, 0, 0), 0) := rfl
theorem s87_23 {c : Nat → List AV → SS → Option Out} {l0 l1 l3 l4 l5 l6 : Option AV} {x : Int32} {L2 : List (Nat × AV)} {St : List AV} {S : SS} : ev c 87 23 [l0, l1, some (aI x), l3, l4, l5, l6] L2 St S = ev c 87 24 [l0, l1, some (aI x), l3, l4, l5, l6] L2 (aI x :: St) S := ev_go i87_23 rfl
theorem i87_24 : insAt 87 24 = some (.invokevirtual 113, 3, (27, 2, 3, 10), 98) := rfl
theorem s87_24 {c : Nat → List AV → SS → Option Out} {l0 l1 l2 l3 l4 l5 l6 : Option AV} {t0 : AV} {a0 : Int32} {a1 : Int32} {j t : Nat} {L2 : List (Nat × AV)} {S : SS} : ev c 87 24 [l0, l1, l2, l3, l4, l5, l6] L2 [aI a1, aI a0, aR (10, j, t), t0] S = ck (c 27 [aR (10, j, t), aI a0, aI a1] S) (fun v S' => ev c 87 27 [l0, l1, l2, l3, l4, l5, l6] L2 (v.toList ++ [t0]) S') := ev_call i87_24 rfl
theorem i87_27 : insAt 87 27 = some (.invokevirtual 116, 3, (28, 1, 2, 4), 99) := rfl
theorem s87_27 {c : Nat → List AV → SS → Option Out} {l0 l1 l2 l3 l4 l5 l6 : Option AV} {a0 : Int32} {j t : Nat} {L2 : List (Nat × AV)} {S : SS} : ev c 87 27 [l0, l1, l2, l3, l4, l5, l6] L2 [aI a0, aR (4, j, t)] S = ck (c 28 [aR (4, j, t), aI a0] S) (fun v S' => ev c 87 30 [l0, l1, l2, l3, l4, l5, l6] L2 (v.toList ++ []) S') := ev_call i87_27 rfl
theorem i87_30 : insAt 87 30 = some (.istore 6, 2, (0, 0, 0, 0), 0) := rfl
theorem s87_30 {c : Nat → List AV → SS → Option Out} {l0 l1 l2 l3 l4 l5 l6 : Option AV} {x : Int32} {L2 : List (Nat × AV)} {St : List AV} {S : SS} : ev c 87 30 [l0, l1, l2, l3, l4, l5, l6] L2 (aI x :: St) S = ev c 87 32 [l0, l1, l2, l3, l4, l5, some (aI x)] (kil L2 6) St S := ev_go i87_30 rfl
theorem i87_32 : insAt 87 32 = some (.iload 4, 2, (0, 0, 0, 0), 0) := rfl
theorem s87_32 {c : Nat → List AV → SS → Option Out} {l0 l1 l2 l3 l5 l6 : Option AV} {x : Int32} {L2 : List (Nat × AV)} {St : List AV} {S : SS} : ev c 87 32 [l0, l1, l2, l3, some (aI x), l5, l6] L2 St S = ev c 87 34 [l0, l1, l2, l3, some (aI x), l5, l6] L2 (aI x :: St) S := ev_go i87_32 rfl
theorem i87_34 : insAt 87 34 = some (.aload_n 0, 1, (0, 0, 0, 0), 0) := rfl
theorem s87_34 {c : Nat → List AV → SS → Option Out} {l1 l2 l3 l4 l5 l6 : Option AV} {o : OId} {L2 : List (Nat × AV)} {St : List AV} {S : SS} : ev c 87 34 [some (aR o), l1, l2, l3, l4, l5, l6] L2 St S = ev c 87 35 [some (aR o), l1, l2, l3, l4, l5, l6] L2 (aR o :: St) S := ev_go i87_34 rfl
theorem i87_35 : insAt 87 35 = some (.iload 5, 2, (0, 0, 0, 0), 0) := rfl
theorem s87_35 {c : Nat → List AV → SS → Option Out} {l0 l1 l2 l3 l4 l6 : Option AV} {x : Int32} {L2 : List (Nat × AV)} {St : List AV} {S : SS} : ev c 87 35 [l0, l1, l2, l3, l4, some (aI x), l6] L2 St S = ev c 87 37 [l0, l1, l2, l3, l4, some (aI x), l6] L2 (aI x :: St) S := ev_go i87_35 rfl
theorem i87_37 : insAt 87 37 = some (.invokevirtual 58, 3, (17, 1, 2, 4), 81) := rfl
theorem s87_37 {c : Nat → List AV → SS → Option Out} {l0 l1 l2 l3 l4 l5 l6 : Option AV} {t0 : AV} {a0 : Int32} {j t : Nat} {L2 : List (Nat × AV)} {S : SS} : ev c 87 37 [l0, l1, l2, l3, l4, l5, l6] L2 [aI a0, aR (4, j, t), t0] S = ck (c 17 [aR (4, j, t), aI a0] S) (fun v S' => ev c 87 40 [l0, l1, l2, l3, l4, l5, l6] L2 (v.toList ++ [t0]) S') := ev_call i87_37 rfl
theorem i87_40 : insAt 87 40 = some (.getfield 126, 3, (10, 3, 1, 0), 91) := rfl
theorem s87_40 {c : Nat → List AV → SS → Option Out} {l0 l1 l2 l3 l4 l5 l6 : Option AV} {j t : Nat} {L2 : List (Nat × AV)} {St : List AV} {S : SS} : ev c 87 40 [l0, l1, l2, l3, l4, l5, l6] L2 (aR (10, j, t) :: St) S = ev c 87 43 [l0, l1, l2, l3, l4, l5, l6] L2 (aI (S.1 (10, j, t) 3) :: St) S := ev_go i87_40 rfl
theorem i87_43 : insAt 87 43 = some (.iload_n 3, 1, (0, 0, 0, 0), 0) := rfl
theorem s87_43 {c : Nat → List AV → SS → Option Out} {l0 l1 l2 l4 l5 l6 : Option AV} {x : Int32} {L2 : List (Nat × AV)} {St : List AV} {S : SS} : ev c 87 43 [l0, l1, l2, some (aI x), l4, l5, l6] L2 St S = ev c 87 44 [l0, l1, l2, some (aI x), l4, l5, l6] L2 (aI x :: St) S := ev_go i87_43 rfl
theorem i87_44 : insAt 87 44 = some (.isub, 1, (0, 0, 0, 0), 0) := rfl
theorem s87_44 {c : Nat → List AV → SS → Option Out} {l0 l1 l2 l3 l4 l5 l6 : Option AV} {x y : Int32} {L2 : List (Nat × AV)} {St : List AV} {S : SS} : ev c 87 44 [l0, l1, l2, l3, l4, l5, l6] L2 (aI y :: aI x :: St) S = ev c 87 45 [l0, l1, l2, l3, l4, l5, l6] L2 (aI (x - y) :: St) S := ev_go i87_44 rfl
theorem i87_45 : insAt 87 45 = some (.invokestatic 129, 3, (0, 1, 25, 0), 92) := rfl
theorem s87_45 {c : Nat → List AV → SS → Option Out} {l0 l1 l2 l3 l4 l5 l6 : Option AV} {t0 : AV} {x : Int32} {L2 : List (Nat × AV)} {S : SS} : ev c 87 45 [l0, l1, l2, l3, l4, l5, l6] L2 [aI x, t0] S = ev c 87 48 [l0, l1, l2, l3, l4, l5, l6] L2 [aI (if 0 ≤ x then x else 0 - x), t0] S := ev_go i87_45 rfl
theorem i87_48 : insAt 87 48 = some (.iload 6, 2, (0, 0, 0, 0), 0) := rfl
theorem s87_48 {c : Nat → List AV → SS → Option Out} {l0 l1 l2 l3 l4 l5 : Option AV} {x : Int32} {L2 : List (Nat × AV)} {St : List AV} {S : SS} : ev c 87 48 [l0, l1, l2, l3, l4, l5, some (aI x)] L2 St S = ev c 87 50 [l0, l1, l2, l3, l4, l5, some (aI x)] L2 (aI x :: St) S := ev_go i87_48 rfl
theorem i87_50 : insAt 87 50 = some (.if_icmp .ge 7, 3, (0, 0, 0, 0), 0) := rfl
theorem s87_50 {c : Nat → List AV → SS → Option Out} {l0 l1 l2 l3 l4 l5 l6 : Option AV} {x y : Int32} {L2 : List (Nat × AV)} {St : List AV} {S : SS} : ev c 87 50 [l0, l1, l2, l3, l4, l5, l6] L2 (aI y :: aI x :: St) S = if y ≤ x then ev c 87 57 [l0, l1, l2, l3, l4, l5, l6] L2 St S else ev c 87 53 [l0, l1, l2, l3, l4, l5, l6] L2 St S := ev_br i87_50 rfl
theorem i87_53 : insAt 87 53 = some (.iconst 1, 1, (0, 0, 0, 0), 0) := rfl
theorem s87_53 {c : Nat → List AV → SS → Option Out} {l0 l1 l2 l3 l4 l5 l6 : Option AV} {L2 : List (Nat × AV)} {St : List AV} {S : SS} : ev c 87 53 [l0, l1, l2, l3, l4, l5, l6] L2 St S = ev c 87 54 [l0, l1, l2, l3, l4, l5, l6] L2 (aI 1 :: St) S := ev_go i87_53 rfl
theorem i87_54 : insAt 87 54 = some (.goto 4, 3, (0, 0, 0, 0), 0) := rfl
theorem s87_54 {c : Nat → List AV → SS → Option Out} {l0 l1 l2 l3 l4 l5 l6 : Option AV} {L2 : List (Nat × AV)} {St : List AV} {S : SS} : ev c 87 54 [l0, l1, l2, l3, l4, l5, l6] L2 St S = ev c 87 58 [l0, l1, l2, l3, l4, l5, l6] L2 St S := ev_go i87_54 rfl
theorem i87_57 : insAt 87 57 = some (.iconst 0, 1, (0, 0, 0, 0), 0) := rfl
theorem s87_57 {c : Nat → List AV → SS → Option Out} {l0 l1 l2 l3 l4 l5 l6 : Option AV} {L2 : List (Nat × AV)} {St : List AV} {S : SS} : ev c 87 57 [l0, l1, l2, l3, l4, l5, l6] L2 St S = ev c 87 58 [l0, l1, l2, l3, l4, l5, l6] L2 (aI 0 :: St) S := ev_go i87_57 rfl
theorem i87_58 : insAt 87 58 = some (.iadd, 1, (0, 0, 0, 0), 0) := rfl
theorem s87_58 {c : Nat → List AV → SS → Option Out} {l0 l1 l2 l3 l4 l5 l6 : Option AV} {x y : Int32} {L2 : List (Nat × AV)} {St : List AV} {S : SS} : ev c 87 58 [l0, l1, l2, l3, l4, l5, l6] L2 (aI y :: aI x :: St) S = ev c 87 59 [l0, l1, l2, l3, l4, l5, l6] L2 (aI (x + y) :: St) S := ev_go i87_58 rfl
theorem i87_59 : insAt 87 59 = some (.istore 4, 2, (0, 0, 0, 0), 0) := rfl
theorem s87_59 {c : Nat → List AV → SS → Option Out} {l0 l1 l2 l3 l4 l5 l6 : Option AV} {x : Int32} {L2 : List (Nat × AV)} {St : List AV} {S : SS} : ev c 87 59 [l0, l1, l2, l3, l4, l5, l6] L2 (aI x :: St) S = ev c 87 61 [l0, l1, l2, l3, some (aI x), l5, l6] (kil L2 4) St S := ev_go i87_59 rfl
theorem i87_61 : insAt 87 61 = some (.iinc 5 1, 3, (0, 0, 0, 0), 0) := rfl
theorem s87_61 {c : Nat → List AV → SS → Option Out} {l0 l1 l2 l3 l4 l6 : Option AV} {x : Int32} {L2 : List (Nat × AV)} {St : List AV} {S : SS} : ev c 87 61 [l0, l1, l2, l3, l4, some (aI x), l6] L2 St S = ev c 87 64 [l0, l1, l2, l3, l4, some (aI (x + 1)), l6] (kil L2 5) St S := ev_go i87_61 rfl
theorem i87_64 : insAt 87 64 = some (.goto (-58), 3, (0, 0, 0, 0), 0) := rfl
theorem s87_64 {c : Nat → List AV → SS → Option Out} {l0 l1 l2 l3 l4 l5 l6 : Option AV} {L2 : List (Nat × AV)} {St : List AV} {S : SS} : ev c 87 64 [l0, l1, l2, l3, l4, l5, l6] L2 St S = ev c 87 6 [l0, l1, l2, l3, l4, l5, l6] L2 St S := ev_go i87_64 rfl
theorem i87_67 : insAt 87 67 = some (.iload 4, 2, (0, 0, 0, 0), 0) := rfl
theorem s87_67 {c : Nat → List AV → SS → Option Out} {l0 l1 l2 l3 l5 l6 : Option AV} {x : Int32} {L2 : List (Nat × AV)} {St : List AV} {S : SS} : ev c 87 67 [l0, l1, l2, l3, some (aI x), l5, l6] L2 St S = ev c 87 69 [l0, l1, l2, l3, some (aI x), l5, l6] L2 (aI x :: St) S := ev_go i87_67 rfl
theorem i87_69 : insAt 87 69 = some (.ireturn, 1, (0, 0, 0, 0), 0) := rfl
theorem s87_69 {c : Nat → List AV → SS → Option Out} {l0 l1 l2 l3 l4 l5 l6 : Option AV} {x : Int32} {L2 : List (Nat × AV)} {S : SS} : ev c 87 69 [l0, l1, l2, l3, l4, l5, l6] L2 [aI x] S = some (.inl (some (aI x)), S) := ev_end i87_69 rfl
theorem m87 {d : Nat} {o : OId} {a0 : Int32} {a1 : Int32} {a2 : Int32} {S : SS} : evm (d + 1) 87 [aR o, aI a0, aI a1, aI a2] S = ev (evm d) 87 0 [some (aR o), some (aI a0), some (aI a1), some (aI a2), none, none, none] [] [] S := evm_s (n := 7) rfl (Nat.le_of_ble_eq_true rfl) rfl rfl
/-! FrequencyOffice$Books.nextDay()V -/
theorem i98_0 : insAt 98 0 = some (.aload_n 0, 1, (0, 0, 0, 0), 0) := rfl
theorem s98_0 {c : Nat → List AV → SS → Option Out} {l1 : Option AV} {o : OId} {L2 : List (Nat × AV)} {St : List AV} {S : SS} : ev c 98 0 [some (aR o), l1] L2 St S = ev c 98 1 [some (aR o), l1] L2 (aR o :: St) S := ev_go i98_0 rfl
theorem i98_1 : insAt 98 1 = some (.dup, 1, (0, 0, 0, 0), 0) := rfl
theorem s98_1 {c : Nat → List AV → SS → Option Out} {l0 l1 : Option AV} {x : OId} {L2 : List (Nat × AV)} {St : List AV} {S : SS} : ev c 98 1 [l0, l1] L2 (aR x :: St) S = ev c 98 2 [l0, l1] L2 (aR x :: aR x :: St) S := ev_go i98_1 rfl
theorem i98_2 : insAt 98 2 = some (.getfield 21, 3, (4, 3, 0, 0), 24) := rfl
theorem s98_2 {c : Nat → List AV → SS → Option Out} {l0 l1 : Option AV} {j t : Nat} {L2 : List (Nat × AV)} {St : List AV} {S : SS} : ev c 98 2 [l0, l1] L2 (aR (4, j, t) :: St) S = ev c 98 5 [l0, l1] L2 (aI (S.1 (4, j, t) 3) :: St) S := ev_go i98_2 rfl
theorem i98_5 : insAt 98 5 = some (.iconst 1, 1, (0, 0, 0, 0), 0) := rfl
theorem s98_5 {c : Nat → List AV → SS → Option Out} {l0 l1 : Option AV} {L2 : List (Nat × AV)} {St : List AV} {S : SS} : ev c 98 5 [l0, l1] L2 St S = ev c 98 6 [l0, l1] L2 (aI 1 :: St) S := ev_go i98_5 rfl
theorem i98_6 : insAt 98 6 = some (.iadd, 1, (0, 0, 0, 0), 0) := rfl
theorem s98_6 {c : Nat → List AV → SS → Option Out} {l0 l1 : Option AV} {x y : Int32} {L2 : List (Nat × AV)} {St : List AV} {S : SS} : ev c 98 6 [l0, l1] L2 (aI y :: aI x :: St) S = ev c 98 7 [l0, l1] L2 (aI (x + y) :: St) S := ev_go i98_6 rfl
theorem i98_7 : insAt 98 7 = some (.putfield 21, 3, (4, 3, 0, 0), 24) := rfl
theorem s98_7 {c : Nat → List AV → SS → Option Out} {l0 l1 : Option AV} {j t : Nat} {x : Int32} {L2 : List (Nat × AV)} {St : List AV} {S : SS} : ev c 98 7 [l0, l1] L2 (aI x :: aR (4, j, t) :: St) S = ev c 98 10 [l0, l1] L2 St (setI S.1 (4, j, t) 3 x, S.2) := ev_go i98_7 rfl
theorem i98_10 : insAt 98 10 = some (.aload_n 0, 1, (0, 0, 0, 0), 0) := rfl
theorem s98_10 {c : Nat → List AV → SS → Option Out} {l1 : Option AV} {o : OId} {L2 : List (Nat × AV)} {St : List AV} {S : SS} : ev c 98 10 [some (aR o), l1] L2 St S = ev c 98 11 [some (aR o), l1] L2 (aR o :: St) S := ev_go i98_10 rfl
theorem i98_11 : insAt 98 11 = some (.getfield 33, 3, (4, 7, 0, 0), 28) := rfl
theorem s98_11 {c : Nat → List AV → SS → Option Out} {l0 l1 : Option AV} {j t : Nat} {L2 : List (Nat × AV)} {St : List AV} {S : SS} : ev c 98 11 [l0, l1] L2 (aR (4, j, t) :: St) S = ev c 98 14 [l0, l1] L2 (aI (S.1 (4, j, t) 7) :: St) S := ev_go i98_11 rfl
theorem i98_14 : insAt 98 14 = some (.iconst 1, 1, (0, 0, 0, 0), 0) := rfl
theorem s98_14 {c : Nat → List AV → SS → Option Out} {l0 l1 : Option AV} {L2 : List (Nat × AV)} {St : List AV} {S : SS} : ev c 98 14 [l0, l1] L2 St S = ev c 98 15 [l0, l1] L2 (aI 1 :: St) S := ev_go i98_14 rfl
theorem i98_15 : insAt 98 15 = some (.isub, 1, (0, 0, 0, 0), 0) := rfl
theorem s98_15 {c : Nat → List AV → SS → Option Out} {l0 l1 : Option AV} {x y : Int32} {L2 : List (Nat × AV)} {St : List AV} {S : SS} : ev c 98 15 [l0, l1] L2 (aI y :: aI x :: St) S = ev c 98 16 [l0, l1] L2 (aI (x - y) :: St) S := ev_go i98_15 rfl
theorem i98_16 : insAt 98 16 = some (.istore_n 1, 1, (0, 0, 0, 0), 0) := rfl
theorem s98_16 {c : Nat → List AV → SS → Option Out} {l0 l1 : Option AV} {x : Int32} {L2 : List (Nat × AV)} {St : List AV} {S : SS} : ev c 98 16 [l0, l1] L2 (aI x :: St) S = ev c 98 17 [l0, some (aI x)] (kil L2 1) St S := ev_go i98_16 rfl
theorem i98_17 : insAt 98 17 = some (.iload_n 1, 1, (0, 0, 0, 0), 0) := rfl
theorem s98_17 {c : Nat → List AV → SS → Option Out} {l0 : Option AV} {x : Int32} {L2 : List (Nat × AV)} {St : List AV} {S : SS} : ev c 98 17 [l0, some (aI x)] L2 St S = ev c 98 18 [l0, some (aI x)] L2 (aI x :: St) S := ev_go i98_17 rfl
theorem i98_18 : insAt 98 18 = some (.ifCond .lt 39, 3, (0, 0, 0, 0), 0) := rfl
theorem s98_18 {c : Nat → List AV → SS → Option Out} {l0 l1 : Option AV} {x : Int32} {L2 : List (Nat × AV)} {St : List AV} {S : SS} : ev c 98 18 [l0, l1] L2 (aI x :: St) S = if x < 0 then ev c 98 57 [l0, l1] L2 St S else ev c 98 21 [l0, l1] L2 St S := ev_br i98_18 rfl
theorem i98_21 : insAt 98 21 = some (.aload_n 0, 1, (0, 0, 0, 0), 0) := rfl
theorem s98_21 {c : Nat → List AV → SS → Option Out} {l1 : Option AV} {o : OId} {L2 : List (Nat × AV)} {St : List AV} {S : SS} : ev c 98 21 [some (aR o), l1] L2 St S = ev c 98 22 [some (aR o), l1] L2 (aR o :: St) S := ev_go i98_21 rfl
theorem i98_22 : insAt 98 22 = some (.iload_n 1, 1, (0, 0, 0, 0), 0) := rfl
theorem s98_22 {c : Nat → List AV → SS → Option Out} {l0 : Option AV} {x : Int32} {L2 : List (Nat × AV)} {St : List AV} {S : SS} : ev c 98 22 [l0, some (aI x)] L2 St S = ev c 98 23 [l0, some (aI x)] L2 (aI x :: St) S := ev_go i98_22 rfl
theorem i98_23 : insAt 98 23 = some (.invokevirtual 58, 3, (17, 1, 2, 4), 81) := rfl
theorem s98_23 {c : Nat → List AV → SS → Option Out} {l0 l1 : Option AV} {a0 : Int32} {j t : Nat} {L2 : List (Nat × AV)} {S : SS} : ev c 98 23 [l0, l1] L2 [aI a0, aR (4, j, t)] S = ck (c 17 [aR (4, j, t), aI a0] S) (fun v S' => ev c 98 26 [l0, l1] L2 (v.toList ++ []) S') := ev_call i98_23 rfl
theorem i98_26 : insAt 98 26 = some (.getfield 84, 3, (10, 4, 1, 0), 204) := rfl
theorem s98_26 {c : Nat → List AV → SS → Option Out} {l0 l1 : Option AV} {j t : Nat} {L2 : List (Nat × AV)} {St : List AV} {S : SS} : ev c 98 26 [l0, l1] L2 (aR (10, j, t) :: St) S = ev c 98 29 [l0, l1] L2 (aI (S.1 (10, j, t) 4) :: St) S := ev_go i98_26 rfl
theorem i98_29 : insAt 98 29 = some (.aload_n 0, 1, (0, 0, 0, 0), 0) := rfl
theorem s98_29 {c : Nat → List AV → SS → Option Out} {l1 : Option AV} {o : OId} {L2 : List (Nat × AV)} {St : List AV} {S : SS} : ev c 98 29 [some (aR o), l1] L2 St S = ev c 98 30 [some (aR o), l1] L2 (aR o :: St) S := ev_go i98_29 rfl
theorem i98_30 : insAt 98 30 = some (.getfield 21, 3, (4, 3, 0, 0), 24) := rfl
theorem s98_30 {c : Nat → List AV → SS → Option Out} {l0 l1 : Option AV} {j t : Nat} {L2 : List (Nat × AV)} {St : List AV} {S : SS} : ev c 98 30 [l0, l1] L2 (aR (4, j, t) :: St) S = ev c 98 33 [l0, l1] L2 (aI (S.1 (4, j, t) 3) :: St) S := ev_go i98_30 rfl
theorem i98_33 : insAt 98 33 = some (.if_icmp .ne 18, 3, (0, 0, 0, 0), 0) := rfl
theorem s98_33 {c : Nat → List AV → SS → Option Out} {l0 l1 : Option AV} {x y : Int32} {L2 : List (Nat × AV)} {St : List AV} {S : SS} : ev c 98 33 [l0, l1] L2 (aI y :: aI x :: St) S = if x = y then ev c 98 36 [l0, l1] L2 St S else ev c 98 51 [l0, l1] L2 St S := (ev_br i98_33 rfl).trans (ite_not _ _ _)
theorem i98_36 : insAt 98 36 = some (.aload_n 0, 1, (0, 0, 0, 0), 0) := rfl
theorem s98_36 {c : Nat → List AV → SS → Option Out} {l1 : Option AV} {o : OId} {L2 : List (Nat × AV)} {St : List AV} {S : SS} : ev c 98 36 [some (aR o), l1] L2 St S = ev c 98 37 [some (aR o), l1] L2 (aR o :: St) S := ev_go i98_36 rfl
theorem i98_37 : insAt 98 37 = some (.iload_n 1, 1, (0, 0, 0, 0), 0) := rfl
theorem s98_37 {c : Nat → List AV → SS → Option Out} {l0 : Option AV} {x : Int32} {L2 : List (Nat × AV)} {St : List AV} {S : SS} : ev c 98 37 [l0, some (aI x)] L2 St S = ev c 98 38 [l0, some (aI x)] L2 (aI x :: St) S := ev_go i98_37 rfl
theorem i98_38 : insAt 98 38 = some (.invokevirtual 106, 3, (81, 1, 2, 4), 211) := rfl
theorem s98_38 {c : Nat → List AV → SS → Option Out} {l0 l1 : Option AV} {a0 : Int32} {j t : Nat} {L2 : List (Nat × AV)} {S : SS} : ev c 98 38 [l0, l1] L2 [aI a0, aR (4, j, t)] S = ck (c 81 [aR (4, j, t), aI a0] S) (fun v S' => ev c 98 41 [l0, l1] L2 (v.toList ++ []) S') := ev_call i98_38 rfl
theorem i98_41 : insAt 98 41 = some (.aload_n 0, 1, (0, 0, 0, 0), 0) := rfl
theorem s98_41 {c : Nat → List AV → SS → Option Out} {l1 : Option AV} {o : OId} {L2 : List (Nat × AV)} {St : List AV} {S : SS} : ev c 98 41 [some (aR o), l1] L2 St S = ev c 98 42 [some (aR o), l1] L2 (aR o :: St) S := ev_go i98_41 rfl
theorem i98_42 : insAt 98 42 = some (.dup, 1, (0, 0, 0, 0), 0) := rfl
theorem s98_42 {c : Nat → List AV → SS → Option Out} {l0 l1 : Option AV} {x : OId} {L2 : List (Nat × AV)} {St : List AV} {S : SS} : ev c 98 42 [l0, l1] L2 (aR x :: St) S = ev c 98 43 [l0, l1] L2 (aR x :: aR x :: St) S := ev_go i98_42 rfl
theorem i98_43 : insAt 98 43 = some (.getfield 27, 3, (4, 5, 0, 0), 26) := rfl
theorem s98_43 {c : Nat → List AV → SS → Option Out} {l0 l1 : Option AV} {j t : Nat} {L2 : List (Nat × AV)} {St : List AV} {S : SS} : ev c 98 43 [l0, l1] L2 (aR (4, j, t) :: St) S = ev c 98 46 [l0, l1] L2 (aI (S.1 (4, j, t) 5) :: St) S := ev_go i98_43 rfl
theorem i98_46 : insAt 98 46 = some (.iconst 1, 1, (0, 0, 0, 0), 0) := rfl
theorem s98_46 {c : Nat → List AV → SS → Option Out} {l0 l1 : Option AV} {L2 : List (Nat × AV)} {St : List AV} {S : SS} : ev c 98 46 [l0, l1] L2 St S = ev c 98 47 [l0, l1] L2 (aI 1 :: St) S := ev_go i98_46 rfl
theorem i98_47 : insAt 98 47 = some (.iadd, 1, (0, 0, 0, 0), 0) := rfl
theorem s98_47 {c : Nat → List AV → SS → Option Out} {l0 l1 : Option AV} {x y : Int32} {L2 : List (Nat × AV)} {St : List AV} {S : SS} : ev c 98 47 [l0, l1] L2 (aI y :: aI x :: St) S = ev c 98 48 [l0, l1] L2 (aI (x + y) :: St) S := ev_go i98_47 rfl
theorem i98_48 : insAt 98 48 = some (.putfield 27, 3, (4, 5, 0, 0), 26) := rfl
theorem s98_48 {c : Nat → List AV → SS → Option Out} {l0 l1 : Option AV} {j t : Nat} {x : Int32} {L2 : List (Nat × AV)} {St : List AV} {S : SS} : ev c 98 48 [l0, l1] L2 (aI x :: aR (4, j, t) :: St) S = ev c 98 51 [l0, l1] L2 St (setI S.1 (4, j, t) 5 x, S.2) := ev_go i98_48 rfl
theorem i98_51 : insAt 98 51 = some (.iinc 1 (-1), 3, (0, 0, 0, 0), 0) := rfl
theorem s98_51 {c : Nat → List AV → SS → Option Out} {l0 : Option AV} {x : Int32} {L2 : List (Nat × AV)} {St : List AV} {S : SS} : ev c 98 51 [l0, some (aI x)] L2 St S = ev c 98 54 [l0, some (aI (x + (-1)))] (kil L2 1) St S := ev_go i98_51 rfl
theorem i98_54 : insAt 98 54 = some (.goto (-37), 3, (0, 0, 0, 0), 0) := rfl
theorem s98_54 {c : Nat → List AV → SS → Option Out} {l0 l1 : Option AV} {L2 : List (Nat × AV)} {St : List AV} {S : SS} : ev c 98 54 [l0, l1] L2 St S = ev c 98 17 [l0, l1] L2 St S := ev_go i98_54 rfl
theorem i98_57 : insAt 98 57 = some (.return_, 1, (0, 0, 0, 0), 0) := rfl
theorem s98_57 {c : Nat → List AV → SS → Option Out} {l0 l1 : Option AV} {L2 : List (Nat × AV)} {S : SS} : ev c 98 57 [l0, l1] L2 [] S = some (.inl none, S) := ev_end i98_57 rfl
theorem m98 {d : Nat} {o : OId} {S : SS} : evm (d + 1) 98 [aR o] S = ev (evm d) 98 0 [some (aR o), none] [] [] S := evm_s (n := 2) rfl (Nat.le_of_ble_eq_true rfl) rfl rfl
/-! FrequencyOffice$Books.placeByExpiry(I)I -/
theorem i104_0 : insAt 104 0 = some (.iconst 0, 1, (0, 0, 0, 0), 0) := rfl
theorem s104_0 {c : Nat → List AV → SS → Option Out} {l0 l1 l2 : Option AV} {L2 : List (Nat × AV)} {St : List AV} {S : SS} : ev c 104 0 [l0, l1, l2] L2 St S = ev c 104 1 [l0, l1, l2] L2 (aI 0 :: St) S := ev_go i104_0 rfl
theorem i104_1 : insAt 104 1 = some (.istore_n 2, 1, (0, 0, 0, 0), 0) := rfl
theorem s104_1 {c : Nat → List AV → SS → Option Out} {l0 l1 l2 : Option AV} {x : Int32} {L2 : List (Nat × AV)} {St : List AV} {S : SS} : ev c 104 1 [l0, l1, l2] L2 (aI x :: St) S = ev c 104 2 [l0, l1, some (aI x)] (kil L2 2) St S := ev_go i104_1 rfl
theorem i104_2 : insAt 104 2 = some (.iload_n 2, 1, (0, 0, 0, 0), 0) := rfl
theorem s104_2 {c : Nat → List AV → SS → Option Out} {l0 l1 : Option AV} {x : Int32} {L2 : List (Nat × AV)} {St : List AV} {S : SS} : ev c 104 2 [l0, l1, some (aI x)] L2 St S = ev c 104 3 [l0, l1, some (aI x)] L2 (aI x :: St) S := ev_go i104_2 rfl
theorem i104_3 : insAt 104 3 = some (.aload_n 0, 1, (0, 0, 0, 0), 0) := rfl
theorem s104_3 {c : Nat → List AV → SS → Option Out} {l1 l2 : Option AV} {o : OId} {L2 : List (Nat × AV)} {St : List AV} {S : SS} : ev c 104 3 [some (aR o), l1, l2] L2 St S = ev c 104 4 [some (aR o), l1, l2] L2 (aR o :: St) S := ev_go i104_3 rfl
theorem i104_4 : insAt 104 4 = some (.getfield 33, 3, (4, 7, 0, 0), 28) := rfl
theorem s104_4 {c : Nat → List AV → SS → Option Out} {l0 l1 l2 : Option AV} {j t : Nat} {L2 : List (Nat × AV)} {St : List AV} {S : SS} : ev c 104 4 [l0, l1, l2] L2 (aR (4, j, t) :: St) S = ev c 104 7 [l0, l1, l2] L2 (aI (S.1 (4, j, t) 7) :: St) S := ev_go i104_4 rfl
theorem i104_7 : insAt 104 7 = some (.if_icmp .ge 20, 3, (0, 0, 0, 0), 0) := rfl
theorem s104_7 {c : Nat → List AV → SS → Option Out} {l0 l1 l2 : Option AV} {x y : Int32} {L2 : List (Nat × AV)} {St : List AV} {S : SS} : ev c 104 7 [l0, l1, l2] L2 (aI y :: aI x :: St) S = if y ≤ x then ev c 104 27 [l0, l1, l2] L2 St S else ev c 104 10 [l0, l1, l2] L2 St S := ev_br i104_7 rfl
theorem i104_10 : insAt 104 10 = some (.aload_n 0, 1, (0, 0, 0, 0), 0) := rfl
theorem s104_10 {c : Nat → List AV → SS → Option Out} {l1 l2 : Option AV} {o : OId} {L2 : List (Nat × AV)} {St : List AV} {S : SS} : ev c 104 10 [some (aR o), l1, l2] L2 St S = ev c 104 11 [some (aR o), l1, l2] L2 (aR o :: St) S := ev_go i104_10 rfl
theorem i104_11 : insAt 104 11 = some (.iload_n 2, 1, (0, 0, 0, 0), 0) := rfl
theorem s104_11 {c : Nat → List AV → SS → Option Out} {l0 l1 : Option AV} {x : Int32} {L2 : List (Nat × AV)} {St : List AV} {S : SS} : ev c 104 11 [l0, l1, some (aI x)] L2 St S = ev c 104 12 [l0, l1, some (aI x)] L2 (aI x :: St) S := ev_go i104_11 rfl
theorem i104_12 : insAt 104 12 = some (.invokevirtual 109, 3, (105, 1, 2, 4), 234) := rfl
theorem s104_12 {c : Nat → List AV → SS → Option Out} {l0 l1 l2 : Option AV} {a0 : Int32} {j t : Nat} {L2 : List (Nat × AV)} {S : SS} : ev c 104 12 [l0, l1, l2] L2 [aI a0, aR (4, j, t)] S = ck (c 105 [aR (4, j, t), aI a0] S) (fun v S' => ev c 104 15 [l0, l1, l2] L2 (v.toList ++ []) S') := ev_call i104_12 rfl
theorem i104_15 : insAt 104 15 = some (.iload_n 1, 1, (0, 0, 0, 0), 0) := rfl
theorem s104_15 {c : Nat → List AV → SS → Option Out} {l0 l2 : Option AV} {x : Int32} {L2 : List (Nat × AV)} {St : List AV} {S : SS} : ev c 104 15 [l0, some (aI x), l2] L2 St S = ev c 104 16 [l0, some (aI x), l2] L2 (aI x :: St) S := ev_go i104_15 rfl
theorem i104_16 : insAt 104 16 = some (.if_icmp .ne 5, 3, (0, 0, 0, 0), 0) := rfl
theorem s104_16 {c : Nat → List AV → SS → Option Out} {l0 l1 l2 : Option AV} {x y : Int32} {L2 : List (Nat × AV)} {St : List AV} {S : SS} : ev c 104 16 [l0, l1, l2] L2 (aI y :: aI x :: St) S = if x = y then ev c 104 19 [l0, l1, l2] L2 St S else ev c 104 21 [l0, l1, l2] L2 St S := (ev_br i104_16 rfl).trans (ite_not _ _ _)
theorem i104_19 : insAt 104 19 = some (.iload_n 2, 1, (0, 0, 0, 0), 0) := rfl
theorem s104_19 {c : Nat → List AV → SS → Option Out} {l0 l1 : Option AV} {x : Int32} {L2 : List (Nat × AV)} {St : List AV} {S : SS} : ev c 104 19 [l0, l1, some (aI x)] L2 St S = ev c 104 20 [l0, l1, some (aI x)] L2 (aI x :: St) S := ev_go i104_19 rfl
theorem i104_20 : insAt 104 20 = some (.ireturn, 1, (0, 0, 0, 0), 0) := rfl
theorem s104_20 {c : Nat → List AV → SS → Option Out} {l0 l1 l2 : Option AV} {x : Int32} {L2 : List (Nat × AV)} {S : SS} : ev c 104 20 [l0, l1, l2] L2 [aI x] S = some (.inl (some (aI x)), S) := ev_end i104_20 rfl
theorem i104_21 : insAt 104 21 = some (.iinc 2 1, 3, (0, 0, 0, 0), 0) := rfl
theorem s104_21 {c : Nat → List AV → SS → Option Out} {l0 l1 : Option AV} {x : Int32} {L2 : List (Nat × AV)} {St : List AV} {S : SS} : ev c 104 21 [l0, l1, some (aI x)] L2 St S = ev c 104 24 [l0, l1, some (aI (x + 1))] (kil L2 2) St S := ev_go i104_21 rfl
theorem i104_24 : insAt 104 24 = some (.goto (-22), 3, (0, 0, 0, 0), 0) := rfl
theorem s104_24 {c : Nat → List AV → SS → Option Out} {l0 l1 l2 : Option AV} {L2 : List (Nat × AV)} {St : List AV} {S : SS} : ev c 104 24 [l0, l1, l2] L2 St S = ev c 104 2 [l0, l1, l2] L2 St S := ev_go i104_24 rfl
theorem i104_27 : insAt 104 27 = some (.iconst (-1), 1, (0, 0, 0, 0), 0) := rfl
theorem s104_27 {c : Nat → List AV → SS → Option Out} {l0 l1 l2 : Option AV} {L2 : List (Nat × AV)} {St : List AV} {S : SS} : ev c 104 27 [l0, l1, l2] L2 St S = ev c 104 28 [l0, l1, l2] L2 (aI (-1) :: St) S := ev_go i104_27 rfl
theorem i104_28 : insAt 104 28 = some (.ireturn, 1, (0, 0, 0, 0), 0) := rfl
theorem s104_28 {c : Nat → List AV → SS → Option Out} {l0 l1 l2 : Option AV} {x : Int32} {L2 : List (Nat × AV)} {S : SS} : ev c 104 28 [l0, l1, l2] L2 [aI x] S = some (.inl (some (aI x)), S) := ev_end i104_28 rfl
theorem m104 {d : Nat} {o : OId} {a0 : Int32} {S : SS} : evm (d + 1) 104 [aR o, aI a0] S = ev (evm d) 104 0 [some (aR o), some (aI a0), none] [] [] S := evm_s (n := 3) rfl (Nat.le_of_ble_eq_true rfl) rfl rfl
/-! FrequencyOffice$Books.countEarlier(I)I -/
theorem i105_0 : insAt 105 0 = some (.aload_n 0, 1, (0, 0, 0, 0), 0) := rfl
theorem s105_0 {c : Nat → List AV → SS → Option Out} {l1 l2 l3 l4 l5 : Option AV} {o : OId} {L2 : List (Nat × AV)} {St : List AV} {S : SS} : ev c 105 0 [some (aR o), l1, l2, l3, l4, l5] L2 St S = ev c 105 1 [some (aR o), l1, l2, l3, l4, l5] L2 (aR o :: St) S := ev_go i105_0 rfl
theorem i105_1 : insAt 105 1 = some (.iload_n 1, 1, (0, 0, 0, 0), 0) := rfl
theorem s105_1 {c : Nat → List AV → SS → Option Out} {l0 l2 l3 l4 l5 : Option AV} {x : Int32} {L2 : List (Nat × AV)} {St : List AV} {S : SS} : ev c 105 1 [l0, some (aI x), l2, l3, l4, l5] L2 St S = ev c 105 2 [l0, some (aI x), l2, l3, l4, l5] L2 (aI x :: St) S := ev_go i105_1 rfl
theorem i105_2 : insAt 105 2 = some (.invokevirtual 58, 3, (17, 1, 2, 4), 81) := rfl
theorem s105_2 {c : Nat → List AV → SS → Option Out} {l0 l1 l2 l3 l4 l5 : Option AV} {a0 : Int32} {j t : Nat} {L2 : List (Nat × AV)} {S : SS} : ev c 105 2 [l0, l1, l2, l3, l4, l5] L2 [aI a0, aR (4, j, t)] S = ck (c 17 [aR (4, j, t), aI a0] S) (fun v S' => ev c 105 5 [l0, l1, l2, l3, l4, l5] L2 (v.toList ++ []) S') := ev_call i105_2 rfl
theorem i105_5 : insAt 105 5 = some (.getfield 84, 3, (10, 4, 1, 0), 204) := rfl
theorem s105_5 {c : Nat → List AV → SS → Option Out} {l0 l1 l2 l3 l4 l5 : Option AV} {j t : Nat} {L2 : List (Nat × AV)} {St : List AV} {S : SS} : ev c 105 5 [l0, l1, l2, l3, l4, l5] L2 (aR (10, j, t) :: St) S = ev c 105 8 [l0, l1, l2, l3, l4, l5] L2 (aI (S.1 (10, j, t) 4) :: St) S := ev_go i105_5 rfl
theorem i105_8 : insAt 105 8 = some (.istore_n 2, 1, (0, 0, 0, 0), 0) := rfl
theorem s105_8 {c : Nat → List AV → SS → Option Out} {l0 l1 l2 l3 l4 l5 : Option AV} {x : Int32} {L2 : List (Nat × AV)} {St : List AV} {S : SS} : ev c 105 8 [l0, l1, l2, l3, l4, l5] L2 (aI x :: St) S = ev c 105 9 [l0, l1, some (aI x), l3, l4, l5] (kil L2 2) St S := ev_go i105_8 rfl
theorem i105_9 : insAt 105 9 = some (.iconst 0, 1, (0, 0, 0, 0), 0) := rfl
theorem s105_9 {c : Nat → List AV → SS → Option Out} {l0 l1 l2 l3 l4 l5 : Option AV} {L2 : List (Nat × AV)} {St : List AV} {S : SS} : ev c 105 9 [l0, l1, l2, l3, l4, l5] L2 St S = ev c 105 10 [l0, l1, l2, l3, l4, l5] L2 (aI 0 :: St) S := ev_go i105_9 rfl
theorem i105_10 : insAt 105 10 = some (.istore_n 3, 1, (0, 0, 0, 0), 0) := rfl
theorem s105_10 {c : Nat → List AV → SS → Option Out} {l0 l1 l2 l3 l4 l5 : Option AV} {x : Int32} {L2 : List (Nat × AV)} {St : List AV} {S : SS} : ev c 105 10 [l0, l1, l2, l3, l4, l5] L2 (aI x :: St) S = ev c 105 11 [l0, l1, l2, some (aI x), l4, l5] (kil L2 3) St S := ev_go i105_10 rfl
theorem i105_11 : insAt 105 11 = some (.iconst 0, 1, (0, 0, 0, 0), 0) := rfl
theorem s105_11 {c : Nat → List AV → SS → Option Out} {l0 l1 l2 l3 l4 l5 : Option AV} {L2 : List (Nat × AV)} {St : List AV} {S : SS} : ev c 105 11 [l0, l1, l2, l3, l4, l5] L2 St S = ev c 105 12 [l0, l1, l2, l3, l4, l5] L2 (aI 0 :: St) S := ev_go i105_11 rfl
theorem i105_12 : insAt 105 12 = some (.istore 4, 2, (0, 0, 0, 0), 0) := rfl
theorem s105_12 {c : Nat → List AV → SS → Option Out} {l0 l1 l2 l3 l4 l5 : Option AV} {x : Int32} {L2 : List (Nat × AV)} {St : List AV} {S : SS} : ev c 105 12 [l0, l1, l2, l3, l4, l5] L2 (aI x :: St) S = ev c 105 14 [l0, l1, l2, l3, some (aI x), l5] (kil L2 4) St S := ev_go i105_12 rfl
theorem i105_14 : insAt 105 14 = some (.iload 4, 2, (0, 0, 0, 0), 0) := rfl
theorem s105_14 {c : Nat → List AV → SS → Option Out} {l0 l1 l2 l3 l5 : Option AV} {x : Int32} {L2 : List (Nat × AV)} {St : List AV} {S : SS} : ev c 105 14 [l0, l1, l2, l3, some (aI x), l5] L2 St S = ev c 105 16 [l0, l1, l2, l3, some (aI x), l5] L2 (aI x :: St) S := ev_go i105_14 rfl
theorem i105_16 : insAt 105 16 = some (.aload_n 0, 1, (0, 0, 0, 0), 0) := rfl
theorem s105_16 {c : Nat → List AV → SS → Option Out} {l1 l2 l3 l4 l5 : Option AV} {o : OId} {L2 : List (Nat × AV)} {St : List AV} {S : SS} : ev c 105 16 [some (aR o), l1, l2, l3, l4, l5] L2 St S = ev c 105 17 [some (aR o), l1, l2, l3, l4, l5] L2 (aR o :: St) S := ev_go i105_16 rfl
theorem i105_17 : insAt 105 17 = some (.getfield 33, 3, (4, 7, 0, 0), 28) := rfl
theorem s105_17 {c : Nat → List AV → SS → Option Out} {l0 l1 l2 l3 l4 l5 : Option AV} {j t : Nat} {L2 : List (Nat × AV)} {St : List AV} {S : SS} : ev c 105 17 [l0, l1, l2, l3, l4, l5] L2 (aR (4, j, t) :: St) S = ev c 105 20 [l0, l1, l2, l3, l4, l5] L2 (aI (S.1 (4, j, t) 7) :: St) S := ev_go i105_17 rfl
theorem i105_20 : insAt 105 20 = some (.if_icmp .ge 61, 3, (0, 0, 0, 0), 0) := rfl
theorem s105_20 {c : Nat → List AV → SS → Option Out} {l0 l1 l2 l3 l4 l5 : Option AV} {x y : Int32} {L2 : List (Nat × AV)} {St : List AV} {S : SS} : ev c 105 20 [l0, l1, l2, l3, l4, l5] L2 (aI y :: aI x :: St) S = if y ≤ x then ev c 105 81 [l0, l1, l2, l3, l4, l5] L2 St S else ev c 105 23 [l0, l1, l2, l3, l4, l5] L2 St S := ev_br i105_20 rfl
theorem i105_23 : insAt 105 23 = some (.aload_n 0, 1, (0, 0, 0, 0), 0) := rfl
theorem s105_23 {c : Nat → List AV → SS → Option Out} {l1 l2 l3 l4 l5 : Option AV} {o : OId} {L2 : List (Nat × AV)} {St : List AV} {S : SS} : ev c 105 23 [some (aR o), l1, l2, l3, l4, l5] L2 St S = ev c 105 24 [some (aR o), l1, l2, l3, l4, l5] L2 (aR o :: St) S := ev_go i105_23 rfl
theorem i105_24 : insAt 105 24 = some (.iload 4, 2, (0, 0, 0, 0), 0) := rfl
theorem s105_24 {c : Nat → List AV → SS → Option Out} {l0 l1 l2 l3 l5 : Option AV} {x : Int32} {L2 : List (Nat × AV)} {St : List AV} {S : SS} : ev c 105 24 [l0, l1, l2, l3, some (aI x), l5] L2 St S = ev c 105 26 [l0, l1, l2, l3, some (aI x), l5] L2 (aI x :: St) S := ev_go i105_24 rfl
theorem i105_26 : insAt 105 26 = some (.invokevirtual 58, 3, (17, 1, 2, 4), 81) := rfl
theorem s105_26 {c : Nat → List AV → SS → Option Out} {l0 l1 l2 l3 l4 l5 : Option AV} {a0 : Int32} {j t : Nat} {L2 : List (Nat × AV)} {S : SS} : ev c 105 26 [l0, l1, l2, l3, l4, l5] L2 [aI a0, aR (4, j, t)] S = ck (c 17 [aR (4, j, t), aI a0] S) (fun v S' => ev c 105 29 [l0, l1, l2, l3, l4, l5] L2 (v.toList ++ []) S') := ev_call i105_26 rfl
theorem i105_29 : insAt 105 29 = some (.getfield 84, 3, (10, 4, 1, 0), 204) := rfl
theorem s105_29 {c : Nat → List AV → SS → Option Out} {l0 l1 l2 l3 l4 l5 : Option AV} {j t : Nat} {L2 : List (Nat × AV)} {St : List AV} {S : SS} : ev c 105 29 [l0, l1, l2, l3, l4, l5] L2 (aR (10, j, t) :: St) S = ev c 105 32 [l0, l1, l2, l3, l4, l5] L2 (aI (S.1 (10, j, t) 4) :: St) S := ev_go i105_29 rfl
theorem i105_32 : insAt 105 32 = some (.iload_n 2, 1, (0, 0, 0, 0), 0) := rfl
theorem s105_32 {c : Nat → List AV → SS → Option Out} {l0 l1 l3 l4 l5 : Option AV} {x : Int32} {L2 : List (Nat × AV)} {St : List AV} {S : SS} : ev c 105 32 [l0, l1, some (aI x), l3, l4, l5] L2 St S = ev c 105 33 [l0, l1, some (aI x), l3, l4, l5] L2 (aI x :: St) S := ev_go i105_32 rfl
theorem i105_33 : insAt 105 33 = some (.if_icmp .lt 22, 3, (0, 0, 0, 0), 0) := rfl
theorem s105_33 {c : Nat → List AV → SS → Option Out} {l0 l1 l2 l3 l4 l5 : Option AV} {x y : Int32} {L2 : List (Nat × AV)} {St : List AV} {S : SS} : ev c 105 33 [l0, l1, l2, l3, l4, l5] L2 (aI y :: aI x :: St) S = if x < y then ev c 105 55 [l0, l1, l2, l3, l4, l5] L2 St S else ev c 105 36 [l0, l1, l2, l3, l4, l5] L2 St S := ev_br i105_33 rfl
theorem i105_36 : insAt 105 36 = some (.aload_n 0, 1, (0, 0, 0, 0), 0) := rfl
theorem s105_36 {c : Nat → List AV → SS → Option Out} {l1 l2 l3 l4 l5 : Option AV} {o : OId} {L2 : List (Nat × AV)} {St : List AV} {S : SS} : ev c 105 36 [some (aR o), l1, l2, l3, l4, l5] L2 St S = ev c 105 37 [some (aR o), l1, l2, l3, l4, l5] L2 (aR o :: St) S := ev_go i105_36 rfl
theorem i105_37 : insAt 105 37 = some (.iload 4, 2, (0, 0, 0, 0), 0) := rfl
theorem s105_37 {c : Nat → List AV → SS → Option Out} {l0 l1 l2 l3 l5 : Option AV} {x : Int32} {L2 : List (Nat × AV)} {St : List AV} {S : SS} : ev c 105 37 [l0, l1, l2, l3, some (aI x), l5] L2 St S = ev c 105 39 [l0, l1, l2, l3, some (aI x), l5] L2 (aI x :: St) S := ev_go i105_37 rfl
theorem i105_39 : insAt 105 39 = some (.invokevirtual 58, 3, (17, 1, 2, 4), 81) := rfl
theorem s105_39 {c : Nat → List AV → SS → Option Out} {l0 l1 l2 l3 l4 l5 : Option AV} {a0 : Int32} {j t : Nat} {L2 : List (Nat × AV)} {S : SS} : ev c 105 39 [l0, l1, l2, l3, l4, l5] L2 [aI a0, aR (4, j, t)] S = ck (c 17 [aR (4, j, t), aI a0] S) (fun v S' => ev c 105 42 [l0, l1, l2, l3, l4, l5] L2 (v.toList ++ []) S') := ev_call i105_39 rfl
theorem i105_42 : insAt 105 42 = some (.getfield 84, 3, (10, 4, 1, 0), 204) := rfl
theorem s105_42 {c : Nat → List AV → SS → Option Out} {l0 l1 l2 l3 l4 l5 : Option AV} {j t : Nat} {L2 : List (Nat × AV)} {St : List AV} {S : SS} : ev c 105 42 [l0, l1, l2, l3, l4, l5] L2 (aR (10, j, t) :: St) S = ev c 105 45 [l0, l1, l2, l3, l4, l5] L2 (aI (S.1 (10, j, t) 4) :: St) S := ev_go i105_42 rfl
theorem i105_45 : insAt 105 45 = some (.iload_n 2, 1, (0, 0, 0, 0), 0) := rfl
theorem s105_45 {c : Nat → List AV → SS → Option Out} {l0 l1 l3 l4 l5 : Option AV} {x : Int32} {L2 : List (Nat × AV)} {St : List AV} {S : SS} : ev c 105 45 [l0, l1, some (aI x), l3, l4, l5] L2 St S = ev c 105 46 [l0, l1, some (aI x), l3, l4, l5] L2 (aI x :: St) S := ev_go i105_45 rfl
theorem i105_46 : insAt 105 46 = some (.if_icmp .ne 13, 3, (0, 0, 0, 0), 0) := rfl
theorem s105_46 {c : Nat → List AV → SS → Option Out} {l0 l1 l2 l3 l4 l5 : Option AV} {x y : Int32} {L2 : List (Nat × AV)} {St : List AV} {S : SS} : ev c 105 46 [l0, l1, l2, l3, l4, l5] L2 (aI y :: aI x :: St) S = if x = y then ev c 105 49 [l0, l1, l2, l3, l4, l5] L2 St S else ev c 105 59 [l0, l1, l2, l3, l4, l5] L2 St S := (ev_br i105_46 rfl).trans (ite_not _ _ _)
theorem i105_49 : insAt 105 49 = some (.iload 4, 2, (0, 0, 0, 0), 0) := rfl
theorem s105_49 {c : Nat → List AV → SS → Option Out} {l0 l1 l2 l3 l5 : Option AV} {x : Int32} {L2 : List (Nat × AV)} {St : List AV} {S : SS} : ev c 105 49 [l0, l1, l2, l3, some (aI x), l5] L2 St S = ev c 105 51 [l0, l1, l2, l3, some (aI x), l5] L2 (aI x :: St) S := ev_go i105_49 rfl
theorem i105_51 : insAt 105 51 = some (.iload_n 1, 1, (0, 0, 0, 0), 0) := rfl
theorem s105_51 {c : Nat → List AV → SS → Option Out} {l0 l2 l3 l4 l5 : Option AV} {x : Int32} {L2 : List (Nat × AV)} {St : List AV} {S : SS} : ev c 105 51 [l0, some (aI x), l2, l3, l4, l5] L2 St S = ev c 105 52 [l0, some (aI x), l2, l3, l4, l5] L2 (aI x :: St) S := ev_go i105_51 rfl
theorem i105_52 : insAt 105 52 = some (.if_icmp .ge 7, 3, (0, 0, 0, 0), 0) := rfl
theorem s105_52 {c : Nat → List AV → SS → Option Out} {l0 l1 l2 l3 l4 l5 : Option AV} {x y : Int32} {L2 : List (Nat × AV)} {St : List AV} {S : SS} : ev c 105 52 [l0, l1, l2, l3, l4, l5] L2 (aI y :: aI x :: St) S = if y ≤ x then ev c 105 59 [l0, l1, l2, l3, l4, l5] L2 St S else ev c 105 55 [l0, l1, l2, l3, l4, l5] L2 St S := ev_br i105_52 rfl
theorem i105_55 : insAt 105 55 = some (.iconst 1, 1, (0, 0, 0, 0), 0) := rfl
theorem s105_55 {c : Nat → List AV → SS → Option Out} {l0 l1 l2 l3 l4 l5 : Option AV} {L2 : List (Nat × AV)} {St : List AV} {S : SS} : ev c 105 55 [l0, l1, l2, l3, l4, l5] L2 St S = ev c 105 56 [l0, l1, l2, l3, l4, l5] L2 (aI 1 :: St) S := ev_go i105_55 rfl
theorem i105_56 : insAt 105 56 = some (.goto 4, 3, (0, 0, 0, 0), 0) := rfl
theorem s105_56 {c : Nat → List AV → SS → Option Out} {l0 l1 l2 l3 l4 l5 : Option AV} {L2 : List (Nat × AV)} {St : List AV} {S : SS} : ev c 105 56 [l0, l1, l2, l3, l4, l5] L2 St S = ev c 105 60 [l0, l1, l2, l3, l4, l5] L2 St S := ev_go i105_56 rfl
theorem i105_59 : insAt 105 59 = some (.iconst 0, 1, (0, 0, 0, 0), 0) := rfl
theorem s105_59 {c : Nat → List AV → SS → Option Out} {l0 l1 l2 l3 l4 l5 : Option AV} {L2 : List (Nat × AV)} {St : List AV} {S : SS} : ev c 105 59 [l0, l1, l2, l3, l4, l5] L2 St S = ev c 105 60 [l0, l1, l2, l3, l4, l5] L2 (aI 0 :: St) S := ev_go i105_59 rfl
theorem i105_60 : insAt 105 60 = some (.istore 5, 2, (0, 0, 0, 0), 0) := rfl
theorem s105_60 {c : Nat → List AV → SS → Option Out} {l0 l1 l2 l3 l4 l5 : Option AV} {x : Int32} {L2 : List (Nat × AV)} {St : List AV} {S : SS} : ev c 105 60 [l0, l1, l2, l3, l4, l5] L2 (aI x :: St) S = ev c 105 62 [l0, l1, l2, l3, l4, some (aI x)] (kil L2 5) St S := ev_go i105_60 rfl
theorem i105_62 : insAt 105 62 = some (.iload_n 3, 1, (0, 0, 0, 0), 0) := rfl
theorem s105_62 {c : Nat → List AV → SS → Option Out} {l0 l1 l2 l4 l5 : Option AV} {x : Int32} {L2 : List (Nat × AV)} {St : List AV} {S : SS} : ev c 105 62 [l0, l1, l2, some (aI x), l4, l5] L2 St S = ev c 105 63 [l0, l1, l2, some (aI x), l4, l5] L2 (aI x :: St) S := ev_go i105_62 rfl
theorem i105_63 : insAt 105 63 = some (.iload 5, 2, (0, 0, 0, 0), 0) := rfl
theorem s105_63 {c : Nat → List AV → SS → Option Out} {l0 l1 l2 l3 l4 : Option AV} {x : Int32} {L2 : List (Nat × AV)} {St : List AV} {S : SS} : ev c 105 63 [l0, l1, l2, l3, l4, some (aI x)] L2 St S = ev c 105 65 [l0, l1, l2, l3, l4, some (aI x)] L2 (aI x :: St) S := ev_go i105_63 rfl
theorem i105_65 : insAt 105 65 = some (.ifCond .eq 7, 3, (0, 0, 0, 0), 0) := rfl
theorem s105_65 {c : Nat → List AV → SS → Option Out} {l0 l1 l2 l3 l4 l5 : Option AV} {x : Int32} {L2 : List (Nat × AV)} {St : List AV} {S : SS} : ev c 105 65 [l0, l1, l2, l3, l4, l5] L2 (aI x :: St) S = if x = 0 then ev c 105 72 [l0, l1, l2, l3, l4, l5] L2 St S else ev c 105 68 [l0, l1, l2, l3, l4, l5] L2 St S := ev_br i105_65 rfl
theorem i105_68 : insAt 105 68 = some (.iconst 1, 1, (0, 0, 0, 0), 0) := rfl
theorem s105_68 {c : Nat → List AV → SS → Option Out} {l0 l1 l2 l3 l4 l5 : Option AV} {L2 : List (Nat × AV)} {St : List AV} {S : SS} : ev c 105 68 [l0, l1, l2, l3, l4, l5] L2 St S = ev c 105 69 [l0, l1, l2, l3, l4, l5] L2 (aI 1 :: St) S := ev_go i105_68 rfl
theorem i105_69 : insAt 105 69 = some (.goto 4, 3, (0, 0, 0, 0), 0) := rfl
theorem s105_69 {c : Nat → List AV → SS → Option Out} {l0 l1 l2 l3 l4 l5 : Option AV} {L2 : List (Nat × AV)} {St : List AV} {S : SS} : ev c 105 69 [l0, l1, l2, l3, l4, l5] L2 St S = ev c 105 73 [l0, l1, l2, l3, l4, l5] L2 St S := ev_go i105_69 rfl
theorem i105_72 : insAt 105 72 = some (.iconst 0, 1, (0, 0, 0, 0), 0) := rfl
theorem s105_72 {c : Nat → List AV → SS → Option Out} {l0 l1 l2 l3 l4 l5 : Option AV} {L2 : List (Nat × AV)} {St : List AV} {S : SS} : ev c 105 72 [l0, l1, l2, l3, l4, l5] L2 St S = ev c 105 73 [l0, l1, l2, l3, l4, l5] L2 (aI 0 :: St) S := ev_go i105_72 rfl
theorem i105_73 : insAt 105 73 = some (.iadd, 1, (0, 0, 0, 0), 0) := rfl
theorem s105_73 {c : Nat → List AV → SS → Option Out} {l0 l1 l2 l3 l4 l5 : Option AV} {x y : Int32} {L2 : List (Nat × AV)} {St : List AV} {S : SS} : ev c 105 73 [l0, l1, l2, l3, l4, l5] L2 (aI y :: aI x :: St) S = ev c 105 74 [l0, l1, l2, l3, l4, l5] L2 (aI (x + y) :: St) S := ev_go i105_73 rfl
theorem i105_74 : insAt 105 74 = some (.istore_n 3, 1, (0, 0, 0, 0), 0) := rfl
theorem s105_74 {c : Nat → List AV → SS → Option Out} {l0 l1 l2 l3 l4 l5 : Option AV} {x : Int32} {L2 : List (Nat × AV)} {St : List AV} {S : SS} : ev c 105 74 [l0, l1, l2, l3, l4, l5] L2 (aI x :: St) S = ev c 105 75 [l0, l1, l2, some (aI x), l4, l5] (kil L2 3) St S := ev_go i105_74 rfl
theorem i105_75 : insAt 105 75 = some (.iinc 4 1, 3, (0, 0, 0, 0), 0) := rfl
theorem s105_75 {c : Nat → List AV → SS → Option Out} {l0 l1 l2 l3 l5 : Option AV} {x : Int32} {L2 : List (Nat × AV)} {St : List AV} {S : SS} : ev c 105 75 [l0, l1, l2, l3, some (aI x), l5] L2 St S = ev c 105 78 [l0, l1, l2, l3, some (aI (x + 1)), l5] (kil L2 4) St S := ev_go i105_75 rfl
theorem i105_78 : insAt 105 78 = some (.goto (-64), 3, (0, 0, 0, 0), 0) := rfl
theorem s105_78 {c : Nat → List AV → SS → Option Out} {l0 l1 l2 l3 l4 l5 : Option AV} {L2 : List (Nat × AV)} {St : List AV} {S : SS} : ev c 105 78 [l0, l1, l2, l3, l4, l5] L2 St S = ev c 105 14 [l0, l1, l2, l3, l4, l5] L2 St S := ev_go i105_78 rfl
theorem i105_81 : insAt 105 81 = some (.iload_n 3, 1, (0, 0, 0, 0), 0) := rfl
theorem s105_81 {c : Nat → List AV → SS → Option Out} {l0 l1 l2 l4 l5 : Option AV} {x : Int32} {L2 : List (Nat × AV)} {St : List AV} {S : SS} : ev c 105 81 [l0, l1, l2, some (aI x), l4, l5] L2 St S = ev c 105 82 [l0, l1, l2, some (aI x), l4, l5] L2 (aI x :: St) S := ev_go i105_81 rfl
theorem i105_82 : insAt 105 82 = some (.ireturn, 1, (0, 0, 0, 0), 0) := rfl
theorem s105_82 {c : Nat → List AV → SS → Option Out} {l0 l1 l2 l3 l4 l5 : Option AV} {x : Int32} {L2 : List (Nat × AV)} {S : SS} : ev c 105 82 [l0, l1, l2, l3, l4, l5] L2 [aI x] S = some (.inl (some (aI x)), S) := ev_end i105_82 rfl
theorem m105 {d : Nat} {o : OId} {a0 : Int32} {S : SS} : evm (d + 1) 105 [aR o, aI a0] S = ev (evm d) 105 0 [some (aR o), some (aI a0), none, none, none, none] [] [] S := evm_s (n := 6) rfl (Nat.le_of_ble_eq_true rfl) rfl rfl
/-! FrequencyOffice$Books.squaredBetween(II)I -/
theorem i119_0 : insAt 119 0 = some (.aload_n 0, 1, (0, 0, 0, 0), 0) := rfl
theorem s119_0 {c : Nat → List AV → SS → Option Out} {l1 l2 : Option AV} {o : OId} {L2 : List (Nat × AV)} {St : List AV} {S : SS} : ev c 119 0 [some (aR o), l1, l2] L2 St S = ev c 119 1 [some (aR o), l1, l2] L2 (aR o :: St) S := ev_go i119_0 rfl
theorem i119_1 : insAt 119 1 = some (.iload_n 1, 1, (0, 0, 0, 0), 0) := rfl
theorem s119_1 {c : Nat → List AV → SS → Option Out} {l0 l2 : Option AV} {x : Int32} {L2 : List (Nat × AV)} {St : List AV} {S : SS} : ev c 119 1 [l0, some (aI x), l2] L2 St S = ev c 119 2 [l0, some (aI x), l2] L2 (aI x :: St) S := ev_go i119_1 rfl
theorem i119_2 : insAt 119 2 = some (.invokevirtual 58, 3, (17, 1, 2, 4), 81) := rfl
theorem s119_2 {c : Nat → List AV → SS → Option Out} {l0 l1 l2 : Option AV} {a0 : Int32} {j t : Nat} {L2 : List (Nat × AV)} {S : SS} : ev c 119 2 [l0, l1, l2] L2 [aI a0, aR (4, j, t)] S = ck (c 17 [aR (4, j, t), aI a0] S) (fun v S' => ev c 119 5 [l0, l1, l2] L2 (v.toList ++ []) S') := ev_call i119_2 rfl
theorem i119_5 : insAt 119 5 = some (.aload_n 0, 1, (0, 0, 0, 0), 0) := rfl
theorem s119_5 {c : Nat → List AV → SS → Option Out} {l1 l2 : Option AV} {o : OId} {L2 : List (Nat × AV)} {St : List AV} {S : SS} : ev c 119 5 [some (aR o), l1, l2] L2 St S = ev c 119 6 [some (aR o), l1, l2] L2 (aR o :: St) S := ev_go i119_5 rfl
theorem i119_6 : insAt 119 6 = some (.iload_n 2, 1, (0, 0, 0, 0), 0) := rfl
theorem s119_6 {c : Nat → List AV → SS → Option Out} {l0 l1 : Option AV} {x : Int32} {L2 : List (Nat × AV)} {St : List AV} {S : SS} : ev c 119 6 [l0, l1, some (aI x)] L2 St S = ev c 119 7 [l0, l1, some (aI x)] L2 (aI x :: St) S := ev_go i119_6 rfl
theorem i119_7 : insAt 119 7 = some (.invokevirtual 58, 3, (17, 1, 2, 4), 81) := rfl
theorem s119_7 {c : Nat → List AV → SS → Option Out} {l0 l1 l2 : Option AV} {t0 : AV} {a0 : Int32} {j t : Nat} {L2 : List (Nat × AV)} {S : SS} : ev c 119 7 [l0, l1, l2] L2 [aI a0, aR (4, j, t), t0] S = ck (c 17 [aR (4, j, t), aI a0] S) (fun v S' => ev c 119 10 [l0, l1, l2] L2 (v.toList ++ [t0]) S') := ev_call i119_7 rfl
theorem i119_10 : insAt 119 10 = some (.getfield 78, 3, (10, 1, 1, 0), 96) := rfl
theorem s119_10 {c : Nat → List AV → SS → Option Out} {l0 l1 l2 : Option AV} {j t : Nat} {L2 : List (Nat × AV)} {St : List AV} {S : SS} : ev c 119 10 [l0, l1, l2] L2 (aR (10, j, t) :: St) S = ev c 119 13 [l0, l1, l2] L2 (aI (S.1 (10, j, t) 1) :: St) S := ev_go i119_10 rfl
theorem i119_13 : insAt 119 13 = some (.aload_n 0, 1, (0, 0, 0, 0), 0) := rfl
theorem s119_13 {c : Nat → List AV → SS → Option Out} {l1 l2 : Option AV} {o : OId} {L2 : List (Nat × AV)} {St : List AV} {S : SS} : ev c 119 13 [some (aR o), l1, l2] L2 St S = ev c 119 14 [some (aR o), l1, l2] L2 (aR o :: St) S := ev_go i119_13 rfl
theorem i119_14 : insAt 119 14 = some (.iload_n 2, 1, (0, 0, 0, 0), 0) := rfl
theorem s119_14 {c : Nat → List AV → SS → Option Out} {l0 l1 : Option AV} {x : Int32} {L2 : List (Nat × AV)} {St : List AV} {S : SS} : ev c 119 14 [l0, l1, some (aI x)] L2 St S = ev c 119 15 [l0, l1, some (aI x)] L2 (aI x :: St) S := ev_go i119_14 rfl
theorem i119_15 : insAt 119 15 = some (.invokevirtual 58, 3, (17, 1, 2, 4), 81) := rfl
theorem s119_15 {c : Nat → List AV → SS → Option Out} {l0 l1 l2 : Option AV} {t0 t1 : AV} {a0 : Int32} {j t : Nat} {L2 : List (Nat × AV)} {S : SS} : ev c 119 15 [l0, l1, l2] L2 [aI a0, aR (4, j, t), t0, t1] S = ck (c 17 [aR (4, j, t), aI a0] S) (fun v S' => ev c 119 18 [l0, l1, l2] L2 (v.toList ++ [t0, t1]) S') := ev_call i119_15 rfl
theorem i119_18 : insAt 119 18 = some (.getfield 81, 3, (10, 2, 1, 0), 97) := rfl
theorem s119_18 {c : Nat → List AV → SS → Option Out} {l0 l1 l2 : Option AV} {j t : Nat} {L2 : List (Nat × AV)} {St : List AV} {S : SS} : ev c 119 18 [l0, l1, l2] L2 (aR (10, j, t) :: St) S = ev c 119 21 [l0, l1, l2] L2 (aI (S.1 (10, j, t) 2) :: St) S := ev_go i119_18 rfl
theorem i119_21 : insAt 119 21 = some (.invokevirtual 113, 3, (27, 2, 3, 10), 98) := rfl
theorem s119_21 {c : Nat → List AV → SS → Option Out} {l0 l1 l2 : Option AV} {a0 : Int32} {a1 : Int32} {j t : Nat} {L2 : List (Nat × AV)} {S : SS} : ev c 119 21 [l0, l1, l2] L2 [aI a1, aI a0, aR (10, j, t)] S = ck (c 27 [aR (10, j, t), aI a0, aI a1] S) (fun v S' => ev c 119 24 [l0, l1, l2] L2 (v.toList ++ []) S') := ev_call i119_21 rfl
theorem i119_24 : insAt 119 24 = some (.ireturn, 1, (0, 0, 0, 0), 0) := rfl
theorem s119_24 {c : Nat → List AV → SS → Option Out} {l0 l1 l2 : Option AV} {x : Int32} {L2 : List (Nat × AV)} {S : SS} : ev c 119 24 [l0, l1, l2] L2 [aI x] S = some (.inl (some (aI x)), S) := ev_end i119_24 rfl
theorem m119 {d : Nat} {o : OId} {a0 : Int32} {a1 : Int32} {S : SS} : evm (d + 1) 119 [aR o, aI a0, aI a1] S = ev (evm d) 119 0 [some (aR o), some (aI a0), some (aI a1)] [] [] S := evm_s (n := 3) rfl (Nat.le_of_ble_eq_true rfl) rfl rfl
/-! FrequencyOffice$Books.sumOfDisturbances()I -/
theorem i135_0 : insAt 135 0 = some (.iconst 0, 1, (0, 0, 0, 0), 0) := rfl
theorem s135_0 {c : Nat → List AV → SS → Option Out} {l0 l1 l2 l3 : Option AV} {L2 : List (Nat × AV)} {St : List AV} {S : SS} : ev c 135 0 [l0, l1, l2, l3] L2 St S = ev c 135 1 [l0, l1, l2, l3] L2 (aI 0 :: St) S := ev_go i135_0 rfl
theorem i135_1 : insAt 135 1 = some (.istore_n 1, 1, (0, 0, 0, 0), 0) := rfl
theorem s135_1 {c : Nat → List AV → SS → Option Out} {l0 l1 l2 l3 : Option AV} {x : Int32} {L2 : List (Nat × AV)} {St : List AV} {S : SS} : ev c 135 1 [l0, l1, l2, l3] L2 (aI x :: St) S = ev c 135 2 [l0, some (aI x), l2, l3] (kil L2 1) St S := ev_go i135_1 rfl
theorem i135_2 : insAt 135 2 = some (.iconst 0, 1, (0, 0, 0, 0), 0) := rfl
theorem s135_2 {c : Nat → List AV → SS → Option Out} {l0 l1 l2 l3 : Option AV} {L2 : List (Nat × AV)} {St : List AV} {S : SS} : ev c 135 2 [l0, l1, l2, l3] L2 St S = ev c 135 3 [l0, l1, l2, l3] L2 (aI 0 :: St) S := ev_go i135_2 rfl
theorem i135_3 : insAt 135 3 = some (.istore_n 2, 1, (0, 0, 0, 0), 0) := rfl
theorem s135_3 {c : Nat → List AV → SS → Option Out} {l0 l1 l2 l3 : Option AV} {x : Int32} {L2 : List (Nat × AV)} {St : List AV} {S : SS} : ev c 135 3 [l0, l1, l2, l3] L2 (aI x :: St) S = ev c 135 4 [l0, l1, some (aI x), l3] (kil L2 2) St S := ev_go i135_3 rfl
theorem i135_4 : insAt 135 4 = some (.iload_n 2, 1, (0, 0, 0, 0), 0) := rfl
theorem s135_4 {c : Nat → List AV → SS → Option Out} {l0 l1 l3 : Option AV} {x : Int32} {L2 : List (Nat × AV)} {St : List AV} {S : SS} : ev c 135 4 [l0, l1, some (aI x), l3] L2 St S = ev c 135 5 [l0, l1, some (aI x), l3] L2 (aI x :: St) S := ev_go i135_4 rfl
theorem i135_5 : insAt 135 5 = some (.aload_n 0, 1, (0, 0, 0, 0), 0) := rfl
theorem s135_5 {c : Nat → List AV → SS → Option Out} {l1 l2 l3 : Option AV} {o : OId} {L2 : List (Nat × AV)} {St : List AV} {S : SS} : ev c 135 5 [some (aR o), l1, l2, l3] L2 St S = ev c 135 6 [some (aR o), l1, l2, l3] L2 (aR o :: St) S := ev_go i135_5 rfl
theorem i135_6 : insAt 135 6 = some (.getfield 33, 3, (4, 7, 0, 0), 28) := rfl
theorem s135_6 {c : Nat → List AV → SS → Option Out} {l0 l1 l2 l3 : Option AV} {j t : Nat} {L2 : List (Nat × AV)} {St : List AV} {S : SS} : ev c 135 6 [l0, l1, l2, l3] L2 (aR (4, j, t) :: St) S = ev c 135 9 [l0, l1, l2, l3] L2 (aI (S.1 (4, j, t) 7) :: St) S := ev_go i135_6 rfl
theorem i135_9 : insAt 135 9 = some (.if_icmp .ge 42, 3, (0, 0, 0, 0), 0) := rfl
theorem s135_9 {c : Nat → List AV → SS → Option Out} {l0 l1 l2 l3 : Option AV} {x y : Int32} {L2 : List (Nat × AV)} {St : List AV} {S : SS} : ev c 135 9 [l0, l1, l2, l3] L2 (aI y :: aI x :: St) S = if y ≤ x then ev c 135 51 [l0, l1, l2, l3] L2 St S else ev c 135 12 [l0, l1, l2, l3] L2 St S := ev_br i135_9 rfl
theorem i135_12 : insAt 135 12 = some (.aload_n 0, 1, (0, 0, 0, 0), 0) := rfl
theorem s135_12 {c : Nat → List AV → SS → Option Out} {l1 l2 l3 : Option AV} {o : OId} {L2 : List (Nat × AV)} {St : List AV} {S : SS} : ev c 135 12 [some (aR o), l1, l2, l3] L2 St S = ev c 135 13 [some (aR o), l1, l2, l3] L2 (aR o :: St) S := ev_go i135_12 rfl
theorem i135_13 : insAt 135 13 = some (.iload_n 2, 1, (0, 0, 0, 0), 0) := rfl
theorem s135_13 {c : Nat → List AV → SS → Option Out} {l0 l1 l3 : Option AV} {x : Int32} {L2 : List (Nat × AV)} {St : List AV} {S : SS} : ev c 135 13 [l0, l1, some (aI x), l3] L2 St S = ev c 135 14 [l0, l1, some (aI x), l3] L2 (aI x :: St) S := ev_go i135_13 rfl
theorem i135_14 : insAt 135 14 = some (.invokevirtual 58, 3, (17, 1, 2, 4), 81) := rfl
theorem s135_14 {c : Nat → List AV → SS → Option Out} {l0 l1 l2 l3 : Option AV} {a0 : Int32} {j t : Nat} {L2 : List (Nat × AV)} {S : SS} : ev c 135 14 [l0, l1, l2, l3] L2 [aI a0, aR (4, j, t)] S = ck (c 17 [aR (4, j, t), aI a0] S) (fun v S' => ev c 135 17 [l0, l1, l2, l3] L2 (v.toList ++ []) S') := ev_call i135_14 rfl
theorem i135_17 : insAt 135 17 = some (.astore_n 3, 1, (0, 0, 0, 0), 0) := rfl
theorem s135_17 {c : Nat → List AV → SS → Option Out} {l0 l1 l2 l3 : Option AV} {o : OId} {L2 : List (Nat × AV)} {St : List AV} {S : SS} : ev c 135 17 [l0, l1, l2, l3] L2 (aR o :: St) S = ev c 135 18 [l0, l1, l2, some (aR o)] (kil L2 3) St S := ev_go i135_17 rfl
theorem i135_18 : insAt 135 18 = some (.aload_n 3, 1, (0, 0, 0, 0), 0) := rfl
theorem s135_18 {c : Nat → List AV → SS → Option Out} {l0 l1 l2 : Option AV} {o : OId} {L2 : List (Nat × AV)} {St : List AV} {S : SS} : ev c 135 18 [l0, l1, l2, some (aR o)] L2 St S = ev c 135 19 [l0, l1, l2, some (aR o)] L2 (aR o :: St) S := ev_go i135_18 rfl
theorem i135_19 : insAt 135 19 = some (.getfield 87, 3, (10, 5, 1, 0), 82) := rfl
theorem s135_19 {c : Nat → List AV → SS → Option Out} {l0 l1 l2 l3 : Option AV} {j t : Nat} {L2 : List (Nat × AV)} {St : List AV} {S : SS} : ev c 135 19 [l0, l1, l2, l3] L2 (aR (10, j, t) :: St) S = ev c 135 22 [l0, l1, l2, l3] L2 (aI (bb (S.1 (10, j, t) 5)) :: St) S := ev_go i135_19 rfl
theorem i135_22 : insAt 135 22 = some (.ifCond .ne 23, 3, (0, 0, 0, 0), 0) := rfl
theorem s135_22 {c : Nat → List AV → SS → Option Out} {l0 l1 l2 l3 : Option AV} {x : Int32} {L2 : List (Nat × AV)} {St : List AV} {S : SS} : ev c 135 22 [l0, l1, l2, l3] L2 (aI x :: St) S = if x = 0 then ev c 135 25 [l0, l1, l2, l3] L2 St S else ev c 135 45 [l0, l1, l2, l3] L2 St S := (ev_br i135_22 rfl).trans (ite_not _ _ _)
theorem i135_25 : insAt 135 25 = some (.iload_n 1, 1, (0, 0, 0, 0), 0) := rfl
theorem s135_25 {c : Nat → List AV → SS → Option Out} {l0 l2 l3 : Option AV} {x : Int32} {L2 : List (Nat × AV)} {St : List AV} {S : SS} : ev c 135 25 [l0, some (aI x), l2, l3] L2 St S = ev c 135 26 [l0, some (aI x), l2, l3] L2 (aI x :: St) S := ev_go i135_25 rfl
theorem i135_26 : insAt 135 26 = some (.aload_n 0, 1, (0, 0, 0, 0), 0) := rfl
theorem s135_26 {c : Nat → List AV → SS → Option Out} {l1 l2 l3 : Option AV} {o : OId} {L2 : List (Nat × AV)} {St : List AV} {S : SS} : ev c 135 26 [some (aR o), l1, l2, l3] L2 St S = ev c 135 27 [some (aR o), l1, l2, l3] L2 (aR o :: St) S := ev_go i135_26 rfl
theorem i135_27 : insAt 135 27 = some (.aload_n 3, 1, (0, 0, 0, 0), 0) := rfl
theorem s135_27 {c : Nat → List AV → SS → Option Out} {l0 l1 l2 : Option AV} {o : OId} {L2 : List (Nat × AV)} {St : List AV} {S : SS} : ev c 135 27 [l0, l1, l2, some (aR o)] L2 St S = ev c 135 28 [l0, l1, l2, some (aR o)] L2 (aR o :: St) S := ev_go i135_27 rfl
theorem i135_28 : insAt 135 28 = some (.getfield 78, 3, (10, 1, 1, 0), 96) := rfl
theorem s135_28 {c : Nat → List AV → SS → Option Out} {l0 l1 l2 l3 : Option AV} {j t : Nat} {L2 : List (Nat × AV)} {St : List AV} {S : SS} : ev c 135 28 [l0, l1, l2, l3] L2 (aR (10, j, t) :: St) S = ev c 135 31 [l0, l1, l2, l3] L2 (aI (S.1 (10, j, t) 1) :: St) S := ev_go i135_28 rfl
theorem i135_31 : insAt 135 31 = some (.aload_n 3, 1, (0, 0, 0, 0), 0) := rfl
theorem s135_31 {c : Nat → List AV → SS → Option Out} {l0 l1 l2 : Option AV} {o : OId} {L2 : List (Nat × AV)} {St : List AV} {S : SS} : ev c 135 31 [l0, l1, l2, some (aR o)] L2 St S = ev c 135 32 [l0, l1, l2, some (aR o)] L2 (aR o :: St) S := ev_go i135_31 rfl
theorem i135_32 : insAt 135 32 = some (.getfield 81, 3, (10, 2, 1, 0), 97) := rfl
theorem s135_32 {c : Nat → List AV → SS → Option Out} {l0 l1 l2 l3 : Option AV} {j t : Nat} {L2 : List (Nat × AV)} {St : List AV} {S : SS} : ev c 135 32 [l0, l1, l2, l3] L2 (aR (10, j, t) :: St) S = ev c 135 35 [l0, l1, l2, l3] L2 (aI (S.1 (10, j, t) 2) :: St) S := ev_go i135_32 rfl
theorem i135_35 : insAt 135 35 = some (.aload_n 3, 1, (0, 0, 0, 0), 0) := rfl
theorem s135_35 {c : Nat → List AV → SS → Option Out} {l0 l1 l2 : Option AV} {o : OId} {L2 : List (Nat × AV)} {St : List AV} {S : SS} : ev c 135 35 [l0, l1, l2, some (aR o)] L2 St S = ev c 135 36 [l0, l1, l2, some (aR o)] L2 (aR o :: St) S := ev_go i135_35 rfl
theorem i135_36 : insAt 135 36 = some (.getfield 126, 3, (10, 3, 1, 0), 91) := rfl
theorem s135_36 {c : Nat → List AV → SS → Option Out} {l0 l1 l2 l3 : Option AV} {j t : Nat} {L2 : List (Nat × AV)} {St : List AV} {S : SS} : ev c 135 36 [l0, l1, l2, l3] L2 (aR (10, j, t) :: St) S = ev c 135 39 [l0, l1, l2, l3] L2 (aI (S.1 (10, j, t) 3) :: St) S := ev_go i135_36 rfl
theorem i135_39 : insAt 135 39 = some (.iload_n 2, 1, (0, 0, 0, 0), 0) := rfl
theorem s135_39 {c : Nat → List AV → SS → Option Out} {l0 l1 l3 : Option AV} {x : Int32} {L2 : List (Nat × AV)} {St : List AV} {S : SS} : ev c 135 39 [l0, l1, some (aI x), l3] L2 St S = ev c 135 40 [l0, l1, some (aI x), l3] L2 (aI x :: St) S := ev_go i135_39 rfl
theorem i135_40 : insAt 135 40 = some (.invokevirtual 143, 3, (86, 4, 2, 4), 216) := rfl
theorem s135_40 {c : Nat → List AV → SS → Option Out} {l0 l1 l2 l3 : Option AV} {t0 : AV} {a0 : Int32} {a1 : Int32} {a2 : Int32} {a3 : Int32} {j t : Nat} {L2 : List (Nat × AV)} {S : SS} : ev c 135 40 [l0, l1, l2, l3] L2 [aI a3, aI a2, aI a1, aI a0, aR (4, j, t), t0] S = ck (c 86 [aR (4, j, t), aI a0, aI a1, aI a2, aI a3] S) (fun v S' => ev c 135 43 [l0, l1, l2, l3] L2 (v.toList ++ [t0]) S') := ev_call i135_40 rfl
theorem i135_43 : insAt 135 43 = some (.iadd, 1, (0, 0, 0, 0), 0) := rfl
theorem s135_43 {c : Nat → List AV → SS → Option Out} {l0 l1 l2 l3 : Option AV} {x y : Int32} {L2 : List (Nat × AV)} {St : List AV} {S : SS} : ev c 135 43 [l0, l1, l2, l3] L2 (aI y :: aI x :: St) S = ev c 135 44 [l0, l1, l2, l3] L2 (aI (x + y) :: St) S := ev_go i135_43 rfl
theorem i135_44 : insAt 135 44 = some (.istore_n 1, 1, (0, 0, 0, 0), 0) := rfl
theorem s135_44 {c : Nat → List AV → SS → Option Out} {l0 l1 l2 l3 : Option AV} {x : Int32} {L2 : List (Nat × AV)} {St : List AV} {S : SS} : ev c 135 44 [l0, l1, l2, l3] L2 (aI x :: St) S = ev c 135 45 [l0, some (aI x), l2, l3] (kil L2 1) St S := ev_go i135_44 rfl
theorem i135_45 : insAt 135 45 = some (.iinc 2 1, 3, (0, 0, 0, 0), 0) := rfl
theorem s135_45 {c : Nat → List AV → SS → Option Out} {l0 l1 l3 : Option AV} {x : Int32} {L2 : List (Nat × AV)} {St : List AV} {S : SS} : ev c 135 45 [l0, l1, some (aI x), l3] L2 St S = ev c 135 48 [l0, l1, some (aI (x + 1)), l3] (kil L2 2) St S := ev_go i135_45 rfl
theorem i135_48 : insAt 135 48 = some (.goto (-44), 3, (0, 0, 0, 0), 0) := rfl
theorem s135_48 {c : Nat → List AV → SS → Option Out} {l0 l1 l2 l3 : Option AV} {L2 : List (Nat × AV)} {St : List AV} {S : SS} : ev c 135 48 [l0, l1, l2, l3] L2 St S = ev c 135 4 [l0, l1, l2, l3] L2 St S := ev_go i135_48 rfl
theorem i135_51 : insAt 135 51 = some (.iload_n 1, 1, (0, 0, 0, 0), 0) := rfl
theorem s135_51 {c : Nat → List AV → SS → Option Out} {l0 l2 l3 : Option AV} {x : Int32} {L2 : List (Nat × AV)} {St : List AV} {S : SS} : ev c 135 51 [l0, some (aI x), l2, l3] L2 St S = ev c 135 52 [l0, some (aI x), l2, l3] L2 (aI x :: St) S := ev_go i135_51 rfl
theorem i135_52 : insAt 135 52 = some (.ireturn, 1, (0, 0, 0, 0), 0) := rfl
theorem s135_52 {c : Nat → List AV → SS → Option Out} {l0 l1 l2 l3 : Option AV} {x : Int32} {L2 : List (Nat × AV)} {S : SS} : ev c 135 52 [l0, l1, l2, l3] L2 [aI x] S = some (.inl (some (aI x)), S) := ev_end i135_52 rfl
theorem m135 {d : Nat} {o : OId} {S : SS} : evm (d + 1) 135 [aR o] S = ev (evm d) 135 0 [some (aR o), none, none, none] [] [] S := evm_s (n := 4) rfl (Nat.le_of_ble_eq_true rfl) rfl rfl
/-! FrequencyOffice$Search.leastByQueue()I -/
theorem i143_0 : insAt 143 0 = some (.aload_n 0, 1, (0, 0, 0, 0), 0) := rfl
theorem s143_0 {c : Nat → List AV → SS → Option Out} {l1 l2 l3 l4 : Option AV} {o : OId} {L2 : List (Nat × AV)} {St : List AV} {S : SS} : ev c 143 0 [some (aR o), l1, l2, l3, l4] L2 St S = ev c 143 1 [some (aR o), l1, l2, l3, l4] L2 (aR o :: St) S := ev_go i143_0 rfl
theorem i143_1 : insAt 143 1 = some (.getfield 26, 3, (8, 4, 0, 0), 62) := rfl
theorem s143_1 {c : Nat → List AV → SS → Option Out} {l0 l1 l2 l3 l4 : Option AV} {j t : Nat} {L2 : List (Nat × AV)} {St : List AV} {S : SS} : ev c 143 1 [l0, l1, l2, l3, l4] L2 (aR (8, j, t) :: St) S = ev c 143 4 [l0, l1, l2, l3, l4] L2 (S.2.2.1 (8, j, t) 4 :: St) S := ev_go i143_1 rfl
theorem i143_4 : insAt 143 4 = some (.iconst 0, 1, (0, 0, 0, 0), 0) := rfl
theorem s143_4 {c : Nat → List AV → SS → Option Out} {l0 l1 l2 l3 l4 : Option AV} {L2 : List (Nat × AV)} {St : List AV} {S : SS} : ev c 143 4 [l0, l1, l2, l3, l4] L2 St S = ev c 143 5 [l0, l1, l2, l3, l4] L2 (aI 0 :: St) S := ev_go i143_4 rfl
theorem i143_5 : insAt 143 5 = some (.aload_n 0, 1, (0, 0, 0, 0), 0) := rfl
theorem s143_5 {c : Nat → List AV → SS → Option Out} {l1 l2 l3 l4 : Option AV} {o : OId} {L2 : List (Nat × AV)} {St : List AV} {S : SS} : ev c 143 5 [some (aR o), l1, l2, l3, l4] L2 St S = ev c 143 6 [some (aR o), l1, l2, l3, l4] L2 (aR o :: St) S := ev_go i143_5 rfl
theorem i143_6 : insAt 143 6 = some (.invokevirtual 147, 3, (144, 0, 2, 8), 268) := rfl
theorem s143_6 {c : Nat → List AV → SS → Option Out} {l0 l1 l2 l3 l4 : Option AV} {t0 t1 : AV} {j t : Nat} {L2 : List (Nat × AV)} {S : SS} : ev c 143 6 [l0, l1, l2, l3, l4] L2 [aR (8, j, t), t0, t1] S = ck (c 144 [aR (8, j, t)] S) (fun v S' => ev c 143 9 [l0, l1, l2, l3, l4] L2 (v.toList ++ [t0, t1]) S') := ev_call i143_6 rfl
theorem i143_9 : insAt 143 9 = some (.invokestatic 85, 3, (35, 3, 1, 0), 180) := rfl
theorem s143_9 {c : Nat → List AV → SS → Option Out} {l0 l1 l2 l3 l4 : Option AV} {a0 : OId} {a1 : Int32} {a2 : Int32} {L2 : List (Nat × AV)} {S : SS} : ev c 143 9 [l0, l1, l2, l3, l4] L2 [aI a2, aI a1, aR a0] S = ck (c 35 [aR a0, aI a1, aI a2] S) (fun v S' => ev c 143 12 [l0, l1, l2, l3, l4] L2 (v.toList ++ []) S') := ev_call i143_9 rfl
theorem i143_12 : insAt 143 12 = some (.iconst 1, 1, (0, 0, 0, 0), 0) := rfl
theorem s143_12 {c : Nat → List AV → SS → Option Out} {l0 l1 l2 l3 l4 : Option AV} {L2 : List (Nat × AV)} {St : List AV} {S : SS} : ev c 143 12 [l0, l1, l2, l3, l4] L2 St S = ev c 143 13 [l0, l1, l2, l3, l4] L2 (aI 1 :: St) S := ev_go i143_12 rfl
theorem i143_13 : insAt 143 13 = some (.istore_n 1, 1, (0, 0, 0, 0), 0) := rfl
theorem s143_13 {c : Nat → List AV → SS → Option Out} {l0 l1 l2 l3 l4 : Option AV} {x : Int32} {L2 : List (Nat × AV)} {St : List AV} {S : SS} : ev c 143 13 [l0, l1, l2, l3, l4] L2 (aI x :: St) S = ev c 143 14 [l0, some (aI x), l2, l3, l4] (kil L2 1) St S := ev_go i143_13 rfl
theorem i143_14 : insAt 143 14 = some (.iconst 0, 1, (0, 0, 0, 0), 0) := rfl
theorem s143_14 {c : Nat → List AV → SS → Option Out} {l0 l1 l2 l3 l4 : Option AV} {L2 : List (Nat × AV)} {St : List AV} {S : SS} : ev c 143 14 [l0, l1, l2, l3, l4] L2 St S = ev c 143 15 [l0, l1, l2, l3, l4] L2 (aI 0 :: St) S := ev_go i143_14 rfl
theorem i143_15 : insAt 143 15 = some (.istore_n 2, 1, (0, 0, 0, 0), 0) := rfl
theorem s143_15 {c : Nat → List AV → SS → Option Out} {l0 l1 l2 l3 l4 : Option AV} {x : Int32} {L2 : List (Nat × AV)} {St : List AV} {S : SS} : ev c 143 15 [l0, l1, l2, l3, l4] L2 (aI x :: St) S = ev c 143 16 [l0, l1, some (aI x), l3, l4] (kil L2 2) St S := ev_go i143_15 rfl
theorem i143_16 : insAt 143 16 = some (.iconst 1, 1, (0, 0, 0, 0), 0) := rfl
theorem s143_16 {c : Nat → List AV → SS → Option Out} {l0 l1 l2 l3 l4 : Option AV} {L2 : List (Nat × AV)} {St : List AV} {S : SS} : ev c 143 16 [l0, l1, l2, l3, l4] L2 St S = ev c 143 17 [l0, l1, l2, l3, l4] L2 (aI 1 :: St) S := ev_go i143_16 rfl
theorem i143_17 : insAt 143 17 = some (.istore_n 3, 1, (0, 0, 0, 0), 0) := rfl
theorem s143_17 {c : Nat → List AV → SS → Option Out} {l0 l1 l2 l3 l4 : Option AV} {x : Int32} {L2 : List (Nat × AV)} {St : List AV} {S : SS} : ev c 143 17 [l0, l1, l2, l3, l4] L2 (aI x :: St) S = ev c 143 18 [l0, l1, l2, some (aI x), l4] (kil L2 3) St S := ev_go i143_17 rfl
theorem i143_18 : insAt 143 18 = some (.iconst 0, 1, (0, 0, 0, 0), 0) := rfl
theorem s143_18 {c : Nat → List AV → SS → Option Out} {l0 l1 l2 l3 l4 : Option AV} {L2 : List (Nat × AV)} {St : List AV} {S : SS} : ev c 143 18 [l0, l1, l2, l3, l4] L2 St S = ev c 143 19 [l0, l1, l2, l3, l4] L2 (aI 0 :: St) S := ev_go i143_18 rfl
theorem i143_19 : insAt 143 19 = some (.istore 4, 2, (0, 0, 0, 0), 0) := rfl
theorem s143_19 {c : Nat → List AV → SS → Option Out} {l0 l1 l2 l3 l4 : Option AV} {x : Int32} {L2 : List (Nat × AV)} {St : List AV} {S : SS} : ev c 143 19 [l0, l1, l2, l3, l4] L2 (aI x :: St) S = ev c 143 21 [l0, l1, l2, l3, some (aI x)] (kil L2 4) St S := ev_go i143_19 rfl
theorem i143_21 : insAt 143 21 = some (.iload 4, 2, (0, 0, 0, 0), 0) := rfl
theorem s143_21 {c : Nat → List AV → SS → Option Out} {l0 l1 l2 l3 : Option AV} {x : Int32} {L2 : List (Nat × AV)} {St : List AV} {S : SS} : ev c 143 21 [l0, l1, l2, l3, some (aI x)] L2 St S = ev c 143 23 [l0, l1, l2, l3, some (aI x)] L2 (aI x :: St) S := ev_go i143_21 rfl
theorem i143_23 : insAt 143 23 = some (.aload_n 0, 1, (0, 0, 0, 0), 0) := rfl
theorem s143_23 {c : Nat → List AV → SS → Option Out} {l1 l2 l3 l4 : Option AV} {o : OId} {L2 : List (Nat × AV)} {St : List AV} {S : SS} : ev c 143 23 [some (aR o), l1, l2, l3, l4] L2 St S = ev c 143 24 [some (aR o), l1, l2, l3, l4] L2 (aR o :: St) S := ev_go i143_23 rfl
theorem i143_24 : insAt 143 24 = some (.getfield 26, 3, (8, 4, 0, 0), 62) := rfl
theorem s143_24 {c : Nat → List AV → SS → Option Out} {l0 l1 l2 l3 l4 : Option AV} {j t : Nat} {L2 : List (Nat × AV)} {St : List AV} {S : SS} : ev c 143 24 [l0, l1, l2, l3, l4] L2 (aR (8, j, t) :: St) S = ev c 143 27 [l0, l1, l2, l3, l4] L2 (S.2.2.1 (8, j, t) 4 :: St) S := ev_go i143_24 rfl
theorem i143_27 : insAt 143 27 = some (.arraylength, 1, (0, 0, 0, 0), 0) := rfl
theorem s143_27 {c : Nat → List AV → SS → Option Out} {l0 l1 l2 l3 l4 : Option AV} {o : OId} {L2 : List (Nat × AV)} {St : List AV} {S : SS} : ev c 143 27 [l0, l1, l2, l3, l4] L2 (aR o :: St) S = kN o (fun x => ev c 143 28 [l0, l1, l2, l3, l4] L2 (aI x :: St) S) := ev_alen i143_27
theorem i143_28 : insAt 143 28 = some (.if_icmp .ge 59, 3, (0, 0, 0, 0), 0) := rfl
theorem s143_28 {c : Nat → List AV → SS → Option Out} {l0 l1 l2 l3 l4 : Option AV} {x y : Int32} {L2 : List (Nat × AV)} {St : List AV} {S : SS} : ev c 143 28 [l0, l1, l2, l3, l4] L2 (aI y :: aI x :: St) S = if y ≤ x then ev c 143 87 [l0, l1, l2, l3, l4] L2 St S else ev c 143 31 [l0, l1, l2, l3, l4] L2 St S := ev_br i143_28 rfl
theorem i143_31 : insAt 143 31 = some (.iload 4, 2, (0, 0, 0, 0), 0) := rfl
theorem s143_31 {c : Nat → List AV → SS → Option Out} {l0 l1 l2 l3 : Option AV} {x : Int32} {L2 : List (Nat × AV)} {St : List AV} {S : SS} : ev c 143 31 [l0, l1, l2, l3, some (aI x)] L2 St S = ev c 143 33 [l0, l1, l2, l3, some (aI x)] L2 (aI x :: St) S := ev_go i143_31 rfl
theorem i143_33 : insAt 143 33 = some (.iload_n 1, 1, (0, 0, 0, 0), 0) := rfl
theorem s143_33 {c : Nat → List AV → SS → Option Out} {l0 l2 l3 l4 : Option AV} {x : Int32} {L2 : List (Nat × AV)} {St : List AV} {S : SS} : ev c 143 33 [l0, some (aI x), l2, l3, l4] L2 St S = ev c 143 34 [l0, some (aI x), l2, l3, l4] L2 (aI x :: St) S := ev_go i143_33 rfl
theorem i143_34 : insAt 143 34 = some (.if_icmp .ge 53, 3, (0, 0, 0, 0), 0) := rfl
theorem s143_34 {c : Nat → List AV → SS → Option Out} {l0 l1 l2 l3 l4 : Option AV} {x y : Int32} {L2 : List (Nat × AV)} {St : List AV} {S : SS} : ev c 143 34 [l0, l1, l2, l3, l4] L2 (aI y :: aI x :: St) S = if y ≤ x then ev c 143 87 [l0, l1, l2, l3, l4] L2 St S else ev c 143 37 [l0, l1, l2, l3, l4] L2 St S := ev_br i143_34 rfl
theorem i143_37 : insAt 143 37 = some (.iload 4, 2, (0, 0, 0, 0), 0) := rfl
theorem s143_37 {c : Nat → List AV → SS → Option Out} {l0 l1 l2 l3 : Option AV} {x : Int32} {L2 : List (Nat × AV)} {St : List AV} {S : SS} : ev c 143 37 [l0, l1, l2, l3, some (aI x)] L2 St S = ev c 143 39 [l0, l1, l2, l3, some (aI x)] L2 (aI x :: St) S := ev_go i143_37 rfl
theorem i143_39 : insAt 143 39 = some (.iload_n 3, 1, (0, 0, 0, 0), 0) := rfl
theorem s143_39 {c : Nat → List AV → SS → Option Out} {l0 l1 l2 l4 : Option AV} {x : Int32} {L2 : List (Nat × AV)} {St : List AV} {S : SS} : ev c 143 39 [l0, l1, l2, some (aI x), l4] L2 St S = ev c 143 40 [l0, l1, l2, some (aI x), l4] L2 (aI x :: St) S := ev_go i143_39 rfl
theorem i143_40 : insAt 143 40 = some (.if_icmp .ne 8, 3, (0, 0, 0, 0), 0) := rfl
theorem s143_40 {c : Nat → List AV → SS → Option Out} {l0 l1 l2 l3 l4 : Option AV} {x y : Int32} {L2 : List (Nat × AV)} {St : List AV} {S : SS} : ev c 143 40 [l0, l1, l2, l3, l4] L2 (aI y :: aI x :: St) S = if x = y then ev c 143 43 [l0, l1, l2, l3, l4] L2 St S else ev c 143 48 [l0, l1, l2, l3, l4] L2 St S := (ev_br i143_40 rfl).trans (ite_not _ _ _)
theorem i143_43 : insAt 143 43 = some (.iinc 2 1, 3, (0, 0, 0, 0), 0) := rfl
theorem s143_43 {c : Nat → List AV → SS → Option Out} {l0 l1 l3 l4 : Option AV} {x : Int32} {L2 : List (Nat × AV)} {St : List AV} {S : SS} : ev c 143 43 [l0, l1, some (aI x), l3, l4] L2 St S = ev c 143 46 [l0, l1, some (aI (x + 1)), l3, l4] (kil L2 2) St S := ev_go i143_43 rfl
theorem i143_46 : insAt 143 46 = some (.iload_n 1, 1, (0, 0, 0, 0), 0) := rfl
theorem s143_46 {c : Nat → List AV → SS → Option Out} {l0 l2 l3 l4 : Option AV} {x : Int32} {L2 : List (Nat × AV)} {St : List AV} {S : SS} : ev c 143 46 [l0, some (aI x), l2, l3, l4] L2 St S = ev c 143 47 [l0, some (aI x), l2, l3, l4] L2 (aI x :: St) S := ev_go i143_46 rfl
theorem i143_47 : insAt 143 47 = some (.istore_n 3, 1, (0, 0, 0, 0), 0) := rfl
theorem s143_47 {c : Nat → List AV → SS → Option Out} {l0 l1 l2 l3 l4 : Option AV} {x : Int32} {L2 : List (Nat × AV)} {St : List AV} {S : SS} : ev c 143 47 [l0, l1, l2, l3, l4] L2 (aI x :: St) S = ev c 143 48 [l0, l1, l2, some (aI x), l4] (kil L2 3) St S := ev_go i143_47 rfl
theorem i143_48 : insAt 143 48 = some (.aload_n 0, 1, (0, 0, 0, 0), 0) := rfl
theorem s143_48 {c : Nat → List AV → SS → Option Out} {l1 l2 l3 l4 : Option AV} {o : OId} {L2 : List (Nat × AV)} {St : List AV} {S : SS} : ev c 143 48 [some (aR o), l1, l2, l3, l4] L2 St S = ev c 143 49 [some (aR o), l1, l2, l3, l4] L2 (aR o :: St) S := ev_go i143_48 rfl
theorem i143_49 : insAt 143 49 = some (.aload_n 0, 1, (0, 0, 0, 0), 0) := rfl
theorem s143_49 {c : Nat → List AV → SS → Option Out} {l1 l2 l3 l4 : Option AV} {o : OId} {L2 : List (Nat × AV)} {St : List AV} {S : SS} : ev c 143 49 [some (aR o), l1, l2, l3, l4] L2 St S = ev c 143 50 [some (aR o), l1, l2, l3, l4] L2 (aR o :: St) S := ev_go i143_49 rfl
theorem i143_50 : insAt 143 50 = some (.getfield 26, 3, (8, 4, 0, 0), 62) := rfl
theorem s143_50 {c : Nat → List AV → SS → Option Out} {l0 l1 l2 l3 l4 : Option AV} {j t : Nat} {L2 : List (Nat × AV)} {St : List AV} {S : SS} : ev c 143 50 [l0, l1, l2, l3, l4] L2 (aR (8, j, t) :: St) S = ev c 143 53 [l0, l1, l2, l3, l4] L2 (S.2.2.1 (8, j, t) 4 :: St) S := ev_go i143_50 rfl
theorem i143_53 : insAt 143 53 = some (.iload 4, 2, (0, 0, 0, 0), 0) := rfl
theorem s143_53 {c : Nat → List AV → SS → Option Out} {l0 l1 l2 l3 : Option AV} {x : Int32} {L2 : List (Nat × AV)} {St : List AV} {S : SS} : ev c 143 53 [l0, l1, l2, l3, some (aI x)] L2 St S = ev c 143 55 [l0, l1, l2, l3, some (aI x)] L2 (aI x :: St) S := ev_go i143_53 rfl
theorem i143_55 : insAt 143 55 = some (.invokestatic 52, 3, (31, 2, 1, 0), 174) := rfl
theorem s143_55 {c : Nat → List AV → SS → Option Out} {l0 l1 l2 l3 l4 : Option AV} {t0 : AV} {a0 : OId} {a1 : Int32} {L2 : List (Nat × AV)} {S : SS} : ev c 143 55 [l0, l1, l2, l3, l4] L2 [aI a1, aR a0, t0] S = ck (c 31 [aR a0, aI a1] S) (fun v S' => ev c 143 58 [l0, l1, l2, l3, l4] L2 (v.toList ++ [t0]) S') := ev_call i143_55 rfl
theorem i143_58 : insAt 143 58 = some (.invokevirtual 150, 3, (145, 1, 2, 8), 269) := rfl
theorem s143_58 {c : Nat → List AV → SS → Option Out} {l0 l1 l2 l3 l4 : Option AV} {a0 : Int32} {j t : Nat} {L2 : List (Nat × AV)} {S : SS} : ev c 143 58 [l0, l1, l2, l3, l4] L2 [aI a0, aR (8, j, t)] S = ck (c 145 [aR (8, j, t), aI a0] S) (fun v S' => ev c 143 61 [l0, l1, l2, l3, l4] L2 (v.toList ++ []) S') := ev_call i143_58 rfl
theorem i143_61 : insAt 143 61 = some (.aload_n 0, 1, (0, 0, 0, 0), 0) := rfl
theorem s143_61 {c : Nat → List AV → SS → Option Out} {l1 l2 l3 l4 : Option AV} {o : OId} {L2 : List (Nat × AV)} {St : List AV} {S : SS} : ev c 143 61 [some (aR o), l1, l2, l3, l4] L2 St S = ev c 143 62 [some (aR o), l1, l2, l3, l4] L2 (aR o :: St) S := ev_go i143_61 rfl
theorem i143_62 : insAt 143 62 = some (.invokevirtual 137, 3, (71, 0, 2, 8), 187) := rfl
theorem s143_62 {c : Nat → List AV → SS → Option Out} {l0 l1 l2 l3 l4 : Option AV} {j t : Nat} {L2 : List (Nat × AV)} {S : SS} : ev c 143 62 [l0, l1, l2, l3, l4] L2 [aR (8, j, t)] S = ck (c 71 [aR (8, j, t)] S) (fun v S' => ev c 143 65 [l0, l1, l2, l3, l4] L2 (v.toList ++ []) S') := ev_call i143_62 rfl
theorem i143_65 : insAt 143 65 = some (.ifCond .eq 5, 3, (0, 0, 0, 0), 0) := rfl
theorem s143_65 {c : Nat → List AV → SS → Option Out} {l0 l1 l2 l3 l4 : Option AV} {x : Int32} {L2 : List (Nat × AV)} {St : List AV} {S : SS} : ev c 143 65 [l0, l1, l2, l3, l4] L2 (aI x :: St) S = if x = 0 then ev c 143 70 [l0, l1, l2, l3, l4] L2 St S else ev c 143 68 [l0, l1, l2, l3, l4] L2 St S := ev_br i143_65 rfl
theorem i143_68 : insAt 143 68 = some (.iload_n 2, 1, (0, 0, 0, 0), 0) := rfl
theorem s143_68 {c : Nat → List AV → SS → Option Out} {l0 l1 l3 l4 : Option AV} {x : Int32} {L2 : List (Nat × AV)} {St : List AV} {S : SS} : ev c 143 68 [l0, l1, some (aI x), l3, l4] L2 St S = ev c 143 69 [l0, l1, some (aI x), l3, l4] L2 (aI x :: St) S := ev_go i143_68 rfl
theorem i143_69 : insAt 143 69 = some (.ireturn, 1, (0, 0, 0, 0), 0) := rfl
theorem s143_69 {c : Nat → List AV → SS → Option Out} {l0 l1 l2 l3 l4 : Option AV} {x : Int32} {L2 : List (Nat × AV)} {S : SS} : ev c 143 69 [l0, l1, l2, l3, l4] L2 [aI x] S = some (.inl (some (aI x)), S) := ev_end i143_69 rfl
theorem i143_70 : insAt 143 70 = some (.iload_n 2, 1, (0, 0, 0, 0), 0) := rfl
theorem s143_70 {c : Nat → List AV → SS → Option Out} {l0 l1 l3 l4 : Option AV} {x : Int32} {L2 : List (Nat × AV)} {St : List AV} {S : SS} : ev c 143 70 [l0, l1, some (aI x), l3, l4] L2 St S = ev c 143 71 [l0, l1, some (aI x), l3, l4] L2 (aI x :: St) S := ev_go i143_70 rfl
theorem i143_71 : insAt 143 71 = some (.iconst 2, 1, (0, 0, 0, 0), 0) := rfl
theorem s143_71 {c : Nat → List AV → SS → Option Out} {l0 l1 l2 l3 l4 : Option AV} {L2 : List (Nat × AV)} {St : List AV} {S : SS} : ev c 143 71 [l0, l1, l2, l3, l4] L2 St S = ev c 143 72 [l0, l1, l2, l3, l4] L2 (aI 2 :: St) S := ev_go i143_71 rfl
theorem i143_72 : insAt 143 72 = some (.if_icmp .ge 9, 3, (0, 0, 0, 0), 0) := rfl
theorem s143_72 {c : Nat → List AV → SS → Option Out} {l0 l1 l2 l3 l4 : Option AV} {x y : Int32} {L2 : List (Nat × AV)} {St : List AV} {S : SS} : ev c 143 72 [l0, l1, l2, l3, l4] L2 (aI y :: aI x :: St) S = if y ≤ x then ev c 143 81 [l0, l1, l2, l3, l4] L2 St S else ev c 143 75 [l0, l1, l2, l3, l4] L2 St S := ev_br i143_72 rfl
theorem i143_75 : insAt 143 75 = some (.aload_n 0, 1, (0, 0, 0, 0), 0) := rfl
theorem s143_75 {c : Nat → List AV → SS → Option Out} {l1 l2 l3 l4 : Option AV} {o : OId} {L2 : List (Nat × AV)} {St : List AV} {S : SS} : ev c 143 75 [some (aR o), l1, l2, l3, l4] L2 St S = ev c 143 76 [some (aR o), l1, l2, l3, l4] L2 (aR o :: St) S := ev_go i143_75 rfl
theorem i143_76 : insAt 143 76 = some (.iload_n 1, 1, (0, 0, 0, 0), 0) := rfl
theorem s143_76 {c : Nat → List AV → SS → Option Out} {l0 l2 l3 l4 : Option AV} {x : Int32} {L2 : List (Nat × AV)} {St : List AV} {S : SS} : ev c 143 76 [l0, some (aI x), l2, l3, l4] L2 St S = ev c 143 77 [l0, some (aI x), l2, l3, l4] L2 (aI x :: St) S := ev_go i143_76 rfl
theorem i143_77 : insAt 143 77 = some (.invokevirtual 154, 3, (146, 1, 2, 8), 270) := rfl
theorem s143_77 {c : Nat → List AV → SS → Option Out} {l0 l1 l2 l3 l4 : Option AV} {a0 : Int32} {j t : Nat} {L2 : List (Nat × AV)} {S : SS} : ev c 143 77 [l0, l1, l2, l3, l4] L2 [aI a0, aR (8, j, t)] S = ck (c 146 [aR (8, j, t), aI a0] S) (fun v S' => ev c 143 80 [l0, l1, l2, l3, l4] L2 (v.toList ++ []) S') := ev_call i143_77 rfl
theorem i143_80 : insAt 143 80 = some (.istore_n 1, 1, (0, 0, 0, 0), 0) := rfl
theorem s143_80 {c : Nat → List AV → SS → Option Out} {l0 l1 l2 l3 l4 : Option AV} {x : Int32} {L2 : List (Nat × AV)} {St : List AV} {S : SS} : ev c 143 80 [l0, l1, l2, l3, l4] L2 (aI x :: St) S = ev c 143 81 [l0, some (aI x), l2, l3, l4] (kil L2 1) St S := ev_go i143_80 rfl
theorem i143_81 : insAt 143 81 = some (.iinc 4 1, 3, (0, 0, 0, 0), 0) := rfl
theorem s143_81 {c : Nat → List AV → SS → Option Out} {l0 l1 l2 l3 : Option AV} {x : Int32} {L2 : List (Nat × AV)} {St : List AV} {S : SS} : ev c 143 81 [l0, l1, l2, l3, some (aI x)] L2 St S = ev c 143 84 [l0, l1, l2, l3, some (aI (x + 1))] (kil L2 4) St S := ev_go i143_81 rfl
theorem i143_84 : insAt 143 84 = some (.goto (-63), 3, (0, 0, 0, 0), 0) := rfl
theorem s143_84 {c : Nat → List AV → SS → Option Out} {l0 l1 l2 l3 l4 : Option AV} {L2 : List (Nat × AV)} {St : List AV} {S : SS} : ev c 143 84 [l0, l1, l2, l3, l4] L2 St S = ev c 143 21 [l0, l1, l2, l3, l4] L2 St S := ev_go i143_84 rfl
theorem i143_87 : insAt 143 87 = some (.iconst (-1), 1, (0, 0, 0, 0), 0) := rfl
theorem s143_87 {c : Nat → List AV → SS → Option Out} {l0 l1 l2 l3 l4 : Option AV} {L2 : List (Nat × AV)} {St : List AV} {S : SS} : ev c 143 87 [l0, l1, l2, l3, l4] L2 St S = ev c 143 88 [l0, l1, l2, l3, l4] L2 (aI (-1) :: St) S := ev_go i143_87 rfl
theorem i143_88 : insAt 143 88 = some (.ireturn, 1, (0, 0, 0, 0), 0) := rfl
theorem s143_88 {c : Nat → List AV → SS → Option Out} {l0 l1 l2 l3 l4 : Option AV} {x : Int32} {L2 : List (Nat × AV)} {S : SS} : ev c 143 88 [l0, l1, l2, l3, l4] L2 [aI x] S = some (.inl (some (aI x)), S) := ev_end i143_88 rfl
theorem m143 {d : Nat} {o : OId} {S : SS} : evm (d + 1) 143 [aR o] S = ev (evm d) 143 0 [some (aR o), none, none, none, none] [] [] S := evm_s (n := 5) rfl (Nat.le_of_ble_eq_true rfl) rfl rfl
/-! FrequencyOffice$Search.pack()I -/
theorem i144_0 : insAt 144 0 = some (.iconst 0, 1, (0, 0, 0, 0), 0) := rfl
theorem s144_0 {c : Nat → List AV → SS → Option Out} {l0 l1 l2 : Option AV} {L2 : List (Nat × AV)} {St : List AV} {S : SS} : ev c 144 0 [l0, l1, l2] L2 St S = ev c 144 1 [l0, l1, l2] L2 (aI 0 :: St) S := ev_go i144_0 rfl
theorem i144_1 : insAt 144 1 = some (.istore_n 1, 1, (0, 0, 0, 0), 0) := rfl
theorem s144_1 {c : Nat → List AV → SS → Option Out} {l0 l1 l2 : Option AV} {x : Int32} {L2 : List (Nat × AV)} {St : List AV} {S : SS} : ev c 144 1 [l0, l1, l2] L2 (aI x :: St) S = ev c 144 2 [l0, some (aI x), l2] (kil L2 1) St S := ev_go i144_1 rfl
theorem i144_2 : insAt 144 2 = some (.iconst 0, 1, (0, 0, 0, 0), 0) := rfl
theorem s144_2 {c : Nat → List AV → SS → Option Out} {l0 l1 l2 : Option AV} {L2 : List (Nat × AV)} {St : List AV} {S : SS} : ev c 144 2 [l0, l1, l2] L2 St S = ev c 144 3 [l0, l1, l2] L2 (aI 0 :: St) S := ev_go i144_2 rfl
theorem i144_3 : insAt 144 3 = some (.istore_n 2, 1, (0, 0, 0, 0), 0) := rfl
theorem s144_3 {c : Nat → List AV → SS → Option Out} {l0 l1 l2 : Option AV} {x : Int32} {L2 : List (Nat × AV)} {St : List AV} {S : SS} : ev c 144 3 [l0, l1, l2] L2 (aI x :: St) S = ev c 144 4 [l0, l1, some (aI x)] (kil L2 2) St S := ev_go i144_3 rfl
theorem i144_4 : insAt 144 4 = some (.iload_n 2, 1, (0, 0, 0, 0), 0) := rfl
theorem s144_4 {c : Nat → List AV → SS → Option Out} {l0 l1 : Option AV} {x : Int32} {L2 : List (Nat × AV)} {St : List AV} {S : SS} : ev c 144 4 [l0, l1, some (aI x)] L2 St S = ev c 144 5 [l0, l1, some (aI x)] L2 (aI x :: St) S := ev_go i144_4 rfl
theorem i144_5 : insAt 144 5 = some (.aload_n 0, 1, (0, 0, 0, 0), 0) := rfl
theorem s144_5 {c : Nat → List AV → SS → Option Out} {l1 l2 : Option AV} {o : OId} {L2 : List (Nat × AV)} {St : List AV} {S : SS} : ev c 144 5 [some (aR o), l1, l2] L2 St S = ev c 144 6 [some (aR o), l1, l2] L2 (aR o :: St) S := ev_go i144_5 rfl
theorem i144_6 : insAt 144 6 = some (.getfield 36, 3, (8, 0, 0, 0), 65) := rfl
theorem s144_6 {c : Nat → List AV → SS → Option Out} {l0 l1 l2 : Option AV} {j t : Nat} {L2 : List (Nat × AV)} {St : List AV} {S : SS} : ev c 144 6 [l0, l1, l2] L2 (aR (8, j, t) :: St) S = ev c 144 9 [l0, l1, l2] L2 (S.2.2.1 (8, j, t) 0 :: St) S := ev_go i144_6 rfl
theorem i144_9 : insAt 144 9 = some (.getfield 46, 3, (6, 0, 1, 0), 172) := rfl
theorem s144_9 {c : Nat → List AV → SS → Option Out} {l0 l1 l2 : Option AV} {j t : Nat} {L2 : List (Nat × AV)} {St : List AV} {S : SS} : ev c 144 9 [l0, l1, l2] L2 (aR (6, j, t) :: St) S = ev c 144 12 [l0, l1, l2] L2 (aI (S.1 (6, j, t) 0) :: St) S := ev_go i144_9 rfl
theorem i144_12 : insAt 144 12 = some (.if_icmp .ge 26, 3, (0, 0, 0, 0), 0) := rfl
theorem s144_12 {c : Nat → List AV → SS → Option Out} {l0 l1 l2 : Option AV} {x y : Int32} {L2 : List (Nat × AV)} {St : List AV} {S : SS} : ev c 144 12 [l0, l1, l2] L2 (aI y :: aI x :: St) S = if y ≤ x then ev c 144 38 [l0, l1, l2] L2 St S else ev c 144 15 [l0, l1, l2] L2 St S := ev_br i144_12 rfl
theorem i144_15 : insAt 144 15 = some (.iload_n 1, 1, (0, 0, 0, 0), 0) := rfl
theorem s144_15 {c : Nat → List AV → SS → Option Out} {l0 l2 : Option AV} {x : Int32} {L2 : List (Nat × AV)} {St : List AV} {S : SS} : ev c 144 15 [l0, some (aI x), l2] L2 St S = ev c 144 16 [l0, some (aI x), l2] L2 (aI x :: St) S := ev_go i144_15 rfl
theorem i144_16 : insAt 144 16 = some (.bipush 8, 2, (0, 0, 0, 0), 0) := rfl
theorem s144_16 {c : Nat → List AV → SS → Option Out} {l0 l1 l2 : Option AV} {L2 : List (Nat × AV)} {St : List AV} {S : SS} : ev c 144 16 [l0, l1, l2] L2 St S = ev c 144 18 [l0, l1, l2] L2 (aI 8 :: St) S := ev_go i144_16 rfl
theorem i144_18 : insAt 144 18 = some (.imul, 1, (0, 0, 0, 0), 0) := rfl
theorem s144_18 {c : Nat → List AV → SS → Option Out} {l0 l1 l2 : Option AV} {x y : Int32} {L2 : List (Nat × AV)} {St : List AV} {S : SS} : ev c 144 18 [l0, l1, l2] L2 (aI y :: aI x :: St) S = ev c 144 19 [l0, l1, l2] L2 (aI (x * y) :: St) S := ev_go i144_18 rfl
theorem i144_19 : insAt 144 19 = some (.aload_n 0, 1, (0, 0, 0, 0), 0) := rfl
theorem s144_19 {c : Nat → List AV → SS → Option Out} {l1 l2 : Option AV} {o : OId} {L2 : List (Nat × AV)} {St : List AV} {S : SS} : ev c 144 19 [some (aR o), l1, l2] L2 St S = ev c 144 20 [some (aR o), l1, l2] L2 (aR o :: St) S := ev_go i144_19 rfl
theorem i144_20 : insAt 144 20 = some (.getfield 36, 3, (8, 0, 0, 0), 65) := rfl
theorem s144_20 {c : Nat → List AV → SS → Option Out} {l0 l1 l2 : Option AV} {j t : Nat} {L2 : List (Nat × AV)} {St : List AV} {S : SS} : ev c 144 20 [l0, l1, l2] L2 (aR (8, j, t) :: St) S = ev c 144 23 [l0, l1, l2] L2 (S.2.2.1 (8, j, t) 0 :: St) S := ev_go i144_20 rfl
theorem i144_23 : insAt 144 23 = some (.getfield 95, 3, (6, 3, 1, 0), 191) := rfl
theorem s144_23 {c : Nat → List AV → SS → Option Out} {l0 l1 l2 : Option AV} {j t : Nat} {L2 : List (Nat × AV)} {St : List AV} {S : SS} : ev c 144 23 [l0, l1, l2] L2 (aR (6, j, t) :: St) S = ev c 144 26 [l0, l1, l2] L2 (S.2.2.1 (6, j, t) 3 :: St) S := ev_go i144_23 rfl
theorem i144_26 : insAt 144 26 = some (.iload_n 2, 1, (0, 0, 0, 0), 0) := rfl
theorem s144_26 {c : Nat → List AV → SS → Option Out} {l0 l1 : Option AV} {x : Int32} {L2 : List (Nat × AV)} {St : List AV} {S : SS} : ev c 144 26 [l0, l1, some (aI x)] L2 St S = ev c 144 27 [l0, l1, some (aI x)] L2 (aI x :: St) S := ev_go i144_26 rfl
theorem i144_27 : insAt 144 27 = some (.invokestatic 52, 3, (31, 2, 1, 0), 174) := rfl
theorem s144_27 {c : Nat → List AV → SS → Option Out} {l0 l1 l2 : Option AV} {t0 : AV} {a0 : OId} {a1 : Int32} {L2 : List (Nat × AV)} {S : SS} : ev c 144 27 [l0, l1, l2] L2 [aI a1, aR a0, t0] S = ck (c 31 [aR a0, aI a1] S) (fun v S' => ev c 144 30 [l0, l1, l2] L2 (v.toList ++ [t0]) S') := ev_call i144_27 rfl
theorem i144_30 : insAt 144 30 = some (.iadd, 1, (0, 0, 0, 0), 0) := rfl
theorem s144_30 {c : Nat → List AV → SS → Option Out} {l0 l1 l2 : Option AV} {x y : Int32} {L2 : List (Nat × AV)} {St : List AV} {S : SS} : ev c 144 30 [l0, l1, l2] L2 (aI y :: aI x :: St) S = ev c 144 31 [l0, l1, l2] L2 (aI (x + y) :: St) S := ev_go i144_30 rfl
theorem i144_31 : insAt 144 31 = some (.istore_n 1, 1, (0, 0, 0, 0), 0) := rfl
theorem s144_31 {c : Nat → List AV → SS → Option Out} {l0 l1 l2 : Option AV} {x : Int32} {L2 : List (Nat × AV)} {St : List AV} {S : SS} : ev c 144 31 [l0, l1, l2] L2 (aI x :: St) S = ev c 144 32 [l0, some (aI x), l2] (kil L2 1) St S := ev_go i144_31 rfl
theorem i144_32 : insAt 144 32 = some (.iinc 2 1, 3, (0, 0, 0, 0), 0) := rfl
theorem s144_32 {c : Nat → List AV → SS → Option Out} {l0 l1 : Option AV} {x : Int32} {L2 : List (Nat × AV)} {St : List AV} {S : SS} : ev c 144 32 [l0, l1, some (aI x)] L2 St S = ev c 144 35 [l0, l1, some (aI (x + 1))] (kil L2 2) St S := ev_go i144_32 rfl
theorem i144_35 : insAt 144 35 = some (.goto (-31), 3, (0, 0, 0, 0), 0) := rfl
theorem s144_35 {c : Nat → List AV → SS → Option Out} {l0 l1 l2 : Option AV} {L2 : List (Nat × AV)} {St : List AV} {S : SS} : ev c 144 35 [l0, l1, l2] L2 St S = ev c 144 4 [l0, l1, l2] L2 St S := ev_go i144_35 rfl
theorem i144_38 : insAt 144 38 = some (.iload_n 1, 1, (0, 0, 0, 0), 0) := rfl
theorem s144_38 {c : Nat → List AV → SS → Option Out} {l0 l2 : Option AV} {x : Int32} {L2 : List (Nat × AV)} {St : List AV} {S : SS} : ev c 144 38 [l0, some (aI x), l2] L2 St S = ev c 144 39 [l0, some (aI x), l2] L2 (aI x :: St) S := ev_go i144_38 rfl
theorem i144_39 : insAt 144 39 = some (.ireturn, 1, (0, 0, 0, 0), 0) := rfl
theorem s144_39 {c : Nat → List AV → SS → Option Out} {l0 l1 l2 : Option AV} {x : Int32} {L2 : List (Nat × AV)} {S : SS} : ev c 144 39 [l0, l1, l2] L2 [aI x] S = some (.inl (some (aI x)), S) := ev_end i144_39 rfl
theorem m144 {d : Nat} {o : OId} {S : SS} : evm (d + 1) 144 [aR o] S = ev (evm d) 144 0 [some (aR o), none, none] [] [] S := evm_s (n := 3) rfl (Nat.le_of_ble_eq_true rfl) rfl rfl
/-! FrequencyOffice$Search.unpack(I)V -/
theorem i145_0 : insAt 145 0 = some (.iload_n 1, 1, (0, 0, 0, 0), 0) := rfl
theorem s145_0 {c : Nat → List AV → SS → Option Out} {l0 l2 l3 : Option AV} {x : Int32} {L2 : List (Nat × AV)} {St : List AV} {S : SS} : ev c 145 0 [l0, some (aI x), l2, l3] L2 St S = ev c 145 1 [l0, some (aI x), l2, l3] L2 (aI x :: St) S := ev_go i145_0 rfl
theorem i145_1 : insAt 145 1 = some (.istore_n 2, 1, (0, 0, 0, 0), 0) := rfl
theorem s145_1 {c : Nat → List AV → SS → Option Out} {l0 l1 l2 l3 : Option AV} {x : Int32} {L2 : List (Nat × AV)} {St : List AV} {S : SS} : ev c 145 1 [l0, l1, l2, l3] L2 (aI x :: St) S = ev c 145 2 [l0, l1, some (aI x), l3] (kil L2 2) St S := ev_go i145_1 rfl
theorem i145_2 : insAt 145 2 = some (.aload_n 0, 1, (0, 0, 0, 0), 0) := rfl
theorem s145_2 {c : Nat → List AV → SS → Option Out} {l1 l2 l3 : Option AV} {o : OId} {L2 : List (Nat × AV)} {St : List AV} {S : SS} : ev c 145 2 [some (aR o), l1, l2, l3] L2 St S = ev c 145 3 [some (aR o), l1, l2, l3] L2 (aR o :: St) S := ev_go i145_2 rfl
theorem i145_3 : insAt 145 3 = some (.getfield 36, 3, (8, 0, 0, 0), 65) := rfl
theorem s145_3 {c : Nat → List AV → SS → Option Out} {l0 l1 l2 l3 : Option AV} {j t : Nat} {L2 : List (Nat × AV)} {St : List AV} {S : SS} : ev c 145 3 [l0, l1, l2, l3] L2 (aR (8, j, t) :: St) S = ev c 145 6 [l0, l1, l2, l3] L2 (S.2.2.1 (8, j, t) 0 :: St) S := ev_go i145_3 rfl
theorem i145_6 : insAt 145 6 = some (.getfield 46, 3, (6, 0, 1, 0), 172) := rfl
theorem s145_6 {c : Nat → List AV → SS → Option Out} {l0 l1 l2 l3 : Option AV} {j t : Nat} {L2 : List (Nat × AV)} {St : List AV} {S : SS} : ev c 145 6 [l0, l1, l2, l3] L2 (aR (6, j, t) :: St) S = ev c 145 9 [l0, l1, l2, l3] L2 (aI (S.1 (6, j, t) 0) :: St) S := ev_go i145_6 rfl
theorem i145_9 : insAt 145 9 = some (.iconst 1, 1, (0, 0, 0, 0), 0) := rfl
theorem s145_9 {c : Nat → List AV → SS → Option Out} {l0 l1 l2 l3 : Option AV} {L2 : List (Nat × AV)} {St : List AV} {S : SS} : ev c 145 9 [l0, l1, l2, l3] L2 St S = ev c 145 10 [l0, l1, l2, l3] L2 (aI 1 :: St) S := ev_go i145_9 rfl
theorem i145_10 : insAt 145 10 = some (.isub, 1, (0, 0, 0, 0), 0) := rfl
theorem s145_10 {c : Nat → List AV → SS → Option Out} {l0 l1 l2 l3 : Option AV} {x y : Int32} {L2 : List (Nat × AV)} {St : List AV} {S : SS} : ev c 145 10 [l0, l1, l2, l3] L2 (aI y :: aI x :: St) S = ev c 145 11 [l0, l1, l2, l3] L2 (aI (x - y) :: St) S := ev_go i145_10 rfl
theorem i145_11 : insAt 145 11 = some (.istore_n 3, 1, (0, 0, 0, 0), 0) := rfl
theorem s145_11 {c : Nat → List AV → SS → Option Out} {l0 l1 l2 l3 : Option AV} {x : Int32} {L2 : List (Nat × AV)} {St : List AV} {S : SS} : ev c 145 11 [l0, l1, l2, l3] L2 (aI x :: St) S = ev c 145 12 [l0, l1, l2, some (aI x)] (kil L2 3) St S := ev_go i145_11 rfl
theorem i145_12 : insAt 145 12 = some (.iload_n 3, 1, (0, 0, 0, 0), 0) := rfl
theorem s145_12 {c : Nat → List AV → SS → Option Out} {l0 l1 l2 : Option AV} {x : Int32} {L2 : List (Nat × AV)} {St : List AV} {S : SS} : ev c 145 12 [l0, l1, l2, some (aI x)] L2 St S = ev c 145 13 [l0, l1, l2, some (aI x)] L2 (aI x :: St) S := ev_go i145_12 rfl
theorem i145_13 : insAt 145 13 = some (.ifCond .lt 29, 3, (0, 0, 0, 0), 0) := rfl
theorem s145_13 {c : Nat → List AV → SS → Option Out} {l0 l1 l2 l3 : Option AV} {x : Int32} {L2 : List (Nat × AV)} {St : List AV} {S : SS} : ev c 145 13 [l0, l1, l2, l3] L2 (aI x :: St) S = if x < 0 then ev c 145 42 [l0, l1, l2, l3] L2 St S else ev c 145 16 [l0, l1, l2, l3] L2 St S := ev_br i145_13 rfl
theorem i145_16 : insAt 145 16 = some (.aload_n 0, 1, (0, 0, 0, 0), 0) := rfl
theorem s145_16 {c : Nat → List AV → SS → Option Out} {l1 l2 l3 : Option AV} {o : OId} {L2 : List (Nat × AV)} {St : List AV} {S : SS} : ev c 145 16 [some (aR o), l1, l2, l3] L2 St S = ev c 145 17 [some (aR o), l1, l2, l3] L2 (aR o :: St) S := ev_go i145_16 rfl
theorem i145_17 : insAt 145 17 = some (.getfield 36, 3, (8, 0, 0, 0), 65) := rfl
theorem s145_17 {c : Nat → List AV → SS → Option Out} {l0 l1 l2 l3 : Option AV} {j t : Nat} {L2 : List (Nat × AV)} {St : List AV} {S : SS} : ev c 145 17 [l0, l1, l2, l3] L2 (aR (8, j, t) :: St) S = ev c 145 20 [l0, l1, l2, l3] L2 (S.2.2.1 (8, j, t) 0 :: St) S := ev_go i145_17 rfl
theorem i145_20 : insAt 145 20 = some (.getfield 95, 3, (6, 3, 1, 0), 191) := rfl
theorem s145_20 {c : Nat → List AV → SS → Option Out} {l0 l1 l2 l3 : Option AV} {j t : Nat} {L2 : List (Nat × AV)} {St : List AV} {S : SS} : ev c 145 20 [l0, l1, l2, l3] L2 (aR (6, j, t) :: St) S = ev c 145 23 [l0, l1, l2, l3] L2 (S.2.2.1 (6, j, t) 3 :: St) S := ev_go i145_20 rfl
theorem i145_23 : insAt 145 23 = some (.iload_n 3, 1, (0, 0, 0, 0), 0) := rfl
theorem s145_23 {c : Nat → List AV → SS → Option Out} {l0 l1 l2 : Option AV} {x : Int32} {L2 : List (Nat × AV)} {St : List AV} {S : SS} : ev c 145 23 [l0, l1, l2, some (aI x)] L2 St S = ev c 145 24 [l0, l1, l2, some (aI x)] L2 (aI x :: St) S := ev_go i145_23 rfl
theorem i145_24 : insAt 145 24 = some (.iload_n 2, 1, (0, 0, 0, 0), 0) := rfl
theorem s145_24 {c : Nat → List AV → SS → Option Out} {l0 l1 l3 : Option AV} {x : Int32} {L2 : List (Nat × AV)} {St : List AV} {S : SS} : ev c 145 24 [l0, l1, some (aI x), l3] L2 St S = ev c 145 25 [l0, l1, some (aI x), l3] L2 (aI x :: St) S := ev_go i145_24 rfl
theorem i145_25 : insAt 145 25 = some (.bipush 8, 2, (0, 0, 0, 0), 0) := rfl
theorem s145_25 {c : Nat → List AV → SS → Option Out} {l0 l1 l2 l3 : Option AV} {L2 : List (Nat × AV)} {St : List AV} {S : SS} : ev c 145 25 [l0, l1, l2, l3] L2 St S = ev c 145 27 [l0, l1, l2, l3] L2 (aI 8 :: St) S := ev_go i145_25 rfl
theorem i145_27 : insAt 145 27 = some (.irem, 1, (0, 0, 0, 0), 0) := rfl
theorem s145_27 {c : Nat → List AV → SS → Option Out} {l0 l1 l2 l3 : Option AV} {x y : Int32} {L2 : List (Nat × AV)} {St : List AV} {S : SS} (h : ¬ y = 0) : ev c 145 27 [l0, l1, l2, l3] L2 (aI y :: aI x :: St) S = ev c 145 28 [l0, l1, l2, l3] L2 (aI (x - x / y * y) :: St) S := ev_go i145_27 (if_neg h)
theorem i145_28 : insAt 145 28 = some (.invokestatic 85, 3, (35, 3, 1, 0), 180) := rfl
theorem s145_28 {c : Nat → List AV → SS → Option Out} {l0 l1 l2 l3 : Option AV} {a0 : OId} {a1 : Int32} {a2 : Int32} {L2 : List (Nat × AV)} {S : SS} : ev c 145 28 [l0, l1, l2, l3] L2 [aI a2, aI a1, aR a0] S = ck (c 35 [aR a0, aI a1, aI a2] S) (fun v S' => ev c 145 31 [l0, l1, l2, l3] L2 (v.toList ++ []) S') := ev_call i145_28 rfl
theorem i145_31 : insAt 145 31 = some (.iload_n 2, 1, (0, 0, 0, 0), 0) := rfl
theorem s145_31 {c : Nat → List AV → SS → Option Out} {l0 l1 l3 : Option AV} {x : Int32} {L2 : List (Nat × AV)} {St : List AV} {S : SS} : ev c 145 31 [l0, l1, some (aI x), l3] L2 St S = ev c 145 32 [l0, l1, some (aI x), l3] L2 (aI x :: St) S := ev_go i145_31 rfl
theorem i145_32 : insAt 145 32 = some (.bipush 8, 2, (0, 0, 0, 0), 0) := rfl
theorem s145_32 {c : Nat → List AV → SS → Option Out} {l0 l1 l2 l3 : Option AV} {L2 : List (Nat × AV)} {St : List AV} {S : SS} : ev c 145 32 [l0, l1, l2, l3] L2 St S = ev c 145 34 [l0, l1, l2, l3] L2 (aI 8 :: St) S := ev_go i145_32 rfl
theorem i145_34 : insAt 145 34 = some (.idiv, 1, (0, 0, 0, 0), 0) := rfl
theorem s145_34 {c : Nat → List AV → SS → Option Out} {l0 l1 l2 l3 : Option AV} {x y : Int32} {L2 : List (Nat × AV)} {St : List AV} {S : SS} (h : ¬ y = 0) : ev c 145 34 [l0, l1, l2, l3] L2 (aI y :: aI x :: St) S = ev c 145 35 [l0, l1, l2, l3] L2 (aI (x / y) :: St) S := ev_go i145_34 (if_neg h)
theorem i145_35 : insAt 145 35 = some (.istore_n 2, 1, (0, 0, 0, 0), 0) := rfl
theorem s145_35 {c : Nat → List AV → SS → Option Out} {l0 l1 l2 l3 : Option AV} {x : Int32} {L2 : List (Nat × AV)} {St : List AV} {S : SS} : ev c 145 35 [l0, l1, l2, l3] L2 (aI x :: St) S = ev c 145 36 [l0, l1, some (aI x), l3] (kil L2 2) St S := ev_go i145_35 rfl
theorem i145_36 : insAt 145 36 = some (.iinc 3 (-1), 3, (0, 0, 0, 0), 0) := rfl
theorem s145_36 {c : Nat → List AV → SS → Option Out} {l0 l1 l2 : Option AV} {x : Int32} {L2 : List (Nat × AV)} {St : List AV} {S : SS} : ev c 145 36 [l0, l1, l2, some (aI x)] L2 St S = ev c 145 39 [l0, l1, l2, some (aI (x + (-1)))] (kil L2 3) St S := ev_go i145_36 rfl
theorem i145_39 : insAt 145 39 = some (.goto (-27), 3, (0, 0, 0, 0), 0) := rfl
theorem s145_39 {c : Nat → List AV → SS → Option Out} {l0 l1 l2 l3 : Option AV} {L2 : List (Nat × AV)} {St : List AV} {S : SS} : ev c 145 39 [l0, l1, l2, l3] L2 St S = ev c 145 12 [l0, l1, l2, l3] L2 St S := ev_go i145_39 rfl
theorem i145_42 : insAt 145 42 = some (.return_, 1, (0, 0, 0, 0), 0) := rfl
theorem s145_42 {c : Nat → List AV → SS → Option Out} {l0 l1 l2 l3 : Option AV} {L2 : List (Nat × AV)} {S : SS} : ev c 145 42 [l0, l1, l2, l3] L2 [] S = some (.inl none, S) := ev_end i145_42 rfl
theorem m145 {d : Nat} {o : OId} {a0 : Int32} {S : SS} : evm (d + 1) 145 [aR o, aI a0] S = ev (evm d) 145 0 [some (aR o), some (aI a0), none, none] [] [] S := evm_s (n := 4) rfl (Nat.le_of_ble_eq_true rfl) rfl rfl
/-! FrequencyOffice$Search.enqueueMoves(I)I -/
theorem i146_0 : insAt 146 0 = some (.iload_n 1, 1, (0, 0, 0, 0), 0) := rfl
theorem s146_0 {c : Nat → List AV → SS → Option Out} {l0 l2 l3 l4 l5 l6 : Option AV} {x : Int32} {L2 : List (Nat × AV)} {St : List AV} {S : SS} : ev c 146 0 [l0, some (aI x), l2, l3, l4, l5, l6] L2 St S = ev c 146 1 [l0, some (aI x), l2, l3, l4, l5, l6] L2 (aI x :: St) S := ev_go i146_0 rfl
theorem i146_1 : insAt 146 1 = some (.istore_n 2, 1, (0, 0, 0, 0), 0) := rfl
theorem s146_1 {c : Nat → List AV → SS → Option Out} {l0 l1 l2 l3 l4 l5 l6 : Option AV} {x : Int32} {L2 : List (Nat × AV)} {St : List AV} {S : SS} : ev c 146 1 [l0, l1, l2, l3, l4, l5, l6] L2 (aI x :: St) S = ev c 146 2 [l0, l1, some (aI x), l3, l4, l5, l6] (kil L2 2) St S := ev_go i146_1 rfl
theorem i146_2 : insAt 146 2 = some (.iconst 0, 1, (0, 0, 0, 0), 0) := rfl
theorem s146_2 {c : Nat → List AV → SS → Option Out} {l0 l1 l2 l3 l4 l5 l6 : Option AV} {L2 : List (Nat × AV)} {St : List AV} {S : SS} : ev c 146 2 [l0, l1, l2, l3, l4, l5, l6] L2 St S = ev c 146 3 [l0, l1, l2, l3, l4, l5, l6] L2 (aI 0 :: St) S := ev_go i146_2 rfl
theorem i146_3 : insAt 146 3 = some (.istore_n 3, 1, (0, 0, 0, 0), 0) := rfl
theorem s146_3 {c : Nat → List AV → SS → Option Out} {l0 l1 l2 l3 l4 l5 l6 : Option AV} {x : Int32} {L2 : List (Nat × AV)} {St : List AV} {S : SS} : ev c 146 3 [l0, l1, l2, l3, l4, l5, l6] L2 (aI x :: St) S = ev c 146 4 [l0, l1, l2, some (aI x), l4, l5, l6] (kil L2 3) St S := ev_go i146_3 rfl
theorem i146_4 : insAt 146 4 = some (.iload_n 3, 1, (0, 0, 0, 0), 0) := rfl
theorem s146_4 {c : Nat → List AV → SS → Option Out} {l0 l1 l2 l4 l5 l6 : Option AV} {x : Int32} {L2 : List (Nat × AV)} {St : List AV} {S : SS} : ev c 146 4 [l0, l1, l2, some (aI x), l4, l5, l6] L2 St S = ev c 146 5 [l0, l1, l2, some (aI x), l4, l5, l6] L2 (aI x :: St) S := ev_go i146_4 rfl
theorem i146_5 : insAt 146 5 = some (.aload_n 0, 1, (0, 0, 0, 0), 0) := rfl
theorem s146_5 {c : Nat → List AV → SS → Option Out} {l1 l2 l3 l4 l5 l6 : Option AV} {o : OId} {L2 : List (Nat × AV)} {St : List AV} {S : SS} : ev c 146 5 [some (aR o), l1, l2, l3, l4, l5, l6] L2 St S = ev c 146 6 [some (aR o), l1, l2, l3, l4, l5, l6] L2 (aR o :: St) S := ev_go i146_5 rfl
theorem i146_6 : insAt 146 6 = some (.getfield 36, 3, (8, 0, 0, 0), 65) := rfl
theorem s146_6 {c : Nat → List AV → SS → Option Out} {l0 l1 l2 l3 l4 l5 l6 : Option AV} {j t : Nat} {L2 : List (Nat × AV)} {St : List AV} {S : SS} : ev c 146 6 [l0, l1, l2, l3, l4, l5, l6] L2 (aR (8, j, t) :: St) S = ev c 146 9 [l0, l1, l2, l3, l4, l5, l6] L2 (S.2.2.1 (8, j, t) 0 :: St) S := ev_go i146_6 rfl
theorem i146_9 : insAt 146 9 = some (.getfield 46, 3, (6, 0, 1, 0), 172) := rfl
theorem s146_9 {c : Nat → List AV → SS → Option Out} {l0 l1 l2 l3 l4 l5 l6 : Option AV} {j t : Nat} {L2 : List (Nat × AV)} {St : List AV} {S : SS} : ev c 146 9 [l0, l1, l2, l3, l4, l5, l6] L2 (aR (6, j, t) :: St) S = ev c 146 12 [l0, l1, l2, l3, l4, l5, l6] L2 (aI (S.1 (6, j, t) 0) :: St) S := ev_go i146_9 rfl
theorem i146_12 : insAt 146 12 = some (.if_icmp .ge 119, 3, (0, 0, 0, 0), 0) := rfl
theorem s146_12 {c : Nat → List AV → SS → Option Out} {l0 l1 l2 l3 l4 l5 l6 : Option AV} {x y : Int32} {L2 : List (Nat × AV)} {St : List AV} {S : SS} : ev c 146 12 [l0, l1, l2, l3, l4, l5, l6] L2 (aI y :: aI x :: St) S = if y ≤ x then ev c 146 131 [l0, l1, l2, l3, l4, l5, l6] L2 St S else ev c 146 15 [l0, l1, l2, l3, l4, l5, l6] L2 St S := ev_br i146_12 rfl
theorem i146_15 : insAt 146 15 = some (.aload_n 0, 1, (0, 0, 0, 0), 0) := rfl
theorem s146_15 {c : Nat → List AV → SS → Option Out} {l1 l2 l3 l4 l5 l6 : Option AV} {o : OId} {L2 : List (Nat × AV)} {St : List AV} {S : SS} : ev c 146 15 [some (aR o), l1, l2, l3, l4, l5, l6] L2 St S = ev c 146 16 [some (aR o), l1, l2, l3, l4, l5, l6] L2 (aR o :: St) S := ev_go i146_15 rfl
theorem i146_16 : insAt 146 16 = some (.getfield 36, 3, (8, 0, 0, 0), 65) := rfl
theorem s146_16 {c : Nat → List AV → SS → Option Out} {l0 l1 l2 l3 l4 l5 l6 : Option AV} {j t : Nat} {L2 : List (Nat × AV)} {St : List AV} {S : SS} : ev c 146 16 [l0, l1, l2, l3, l4, l5, l6] L2 (aR (8, j, t) :: St) S = ev c 146 19 [l0, l1, l2, l3, l4, l5, l6] L2 (S.2.2.1 (8, j, t) 0 :: St) S := ev_go i146_16 rfl
theorem i146_19 : insAt 146 19 = some (.getfield 95, 3, (6, 3, 1, 0), 191) := rfl
theorem s146_19 {c : Nat → List AV → SS → Option Out} {l0 l1 l2 l3 l4 l5 l6 : Option AV} {j t : Nat} {L2 : List (Nat × AV)} {St : List AV} {S : SS} : ev c 146 19 [l0, l1, l2, l3, l4, l5, l6] L2 (aR (6, j, t) :: St) S = ev c 146 22 [l0, l1, l2, l3, l4, l5, l6] L2 (S.2.2.1 (6, j, t) 3 :: St) S := ev_go i146_19 rfl
theorem i146_22 : insAt 146 22 = some (.iload_n 3, 1, (0, 0, 0, 0), 0) := rfl
theorem s146_22 {c : Nat → List AV → SS → Option Out} {l0 l1 l2 l4 l5 l6 : Option AV} {x : Int32} {L2 : List (Nat × AV)} {St : List AV} {S : SS} : ev c 146 22 [l0, l1, l2, some (aI x), l4, l5, l6] L2 St S = ev c 146 23 [l0, l1, l2, some (aI x), l4, l5, l6] L2 (aI x :: St) S := ev_go i146_22 rfl
theorem i146_23 : insAt 146 23 = some (.invokestatic 52, 3, (31, 2, 1, 0), 174) := rfl
theorem s146_23 {c : Nat → List AV → SS → Option Out} {l0 l1 l2 l3 l4 l5 l6 : Option AV} {a0 : OId} {a1 : Int32} {L2 : List (Nat × AV)} {S : SS} : ev c 146 23 [l0, l1, l2, l3, l4, l5, l6] L2 [aI a1, aR a0] S = ck (c 31 [aR a0, aI a1] S) (fun v S' => ev c 146 26 [l0, l1, l2, l3, l4, l5, l6] L2 (v.toList ++ []) S') := ev_call i146_23 rfl
theorem i146_26 : insAt 146 26 = some (.istore 4, 2, (0, 0, 0, 0), 0) := rfl
theorem s146_26 {c : Nat → List AV → SS → Option Out} {l0 l1 l2 l3 l4 l5 l6 : Option AV} {x : Int32} {L2 : List (Nat × AV)} {St : List AV} {S : SS} : ev c 146 26 [l0, l1, l2, l3, l4, l5, l6] L2 (aI x :: St) S = ev c 146 28 [l0, l1, l2, l3, some (aI x), l5, l6] (kil L2 4) St S := ev_go i146_26 rfl
theorem i146_28 : insAt 146 28 = some (.iload_n 3, 1, (0, 0, 0, 0), 0) := rfl
theorem s146_28 {c : Nat → List AV → SS → Option Out} {l0 l1 l2 l4 l5 l6 : Option AV} {x : Int32} {L2 : List (Nat × AV)} {St : List AV} {S : SS} : ev c 146 28 [l0, l1, l2, some (aI x), l4, l5, l6] L2 St S = ev c 146 29 [l0, l1, l2, some (aI x), l4, l5, l6] L2 (aI x :: St) S := ev_go i146_28 rfl
theorem i146_29 : insAt 146 29 = some (.aload_n 0, 1, (0, 0, 0, 0), 0) := rfl
theorem s146_29 {c : Nat → List AV → SS → Option Out} {l1 l2 l3 l4 l5 l6 : Option AV} {o : OId} {L2 : List (Nat × AV)} {St : List AV} {S : SS} : ev c 146 29 [some (aR o), l1, l2, l3, l4, l5, l6] L2 St S = ev c 146 30 [some (aR o), l1, l2, l3, l4, l5, l6] L2 (aR o :: St) S := ev_go i146_29 rfl
theorem i146_30 : insAt 146 30 = some (.getfield 33, 3, (8, 6, 0, 0), 64) := rfl
theorem s146_30 {c : Nat → List AV → SS → Option Out} {l0 l1 l2 l3 l4 l5 l6 : Option AV} {j t : Nat} {L2 : List (Nat × AV)} {St : List AV} {S : SS} : ev c 146 30 [l0, l1, l2, l3, l4, l5, l6] L2 (aR (8, j, t) :: St) S = ev c 146 33 [l0, l1, l2, l3, l4, l5, l6] L2 (aI (S.1 (8, j, t) 6) :: St) S := ev_go i146_30 rfl
theorem i146_33 : insAt 146 33 = some (.if_icmp .ne 7, 3, (0, 0, 0, 0), 0) := rfl
theorem s146_33 {c : Nat → List AV → SS → Option Out} {l0 l1 l2 l3 l4 l5 l6 : Option AV} {x y : Int32} {L2 : List (Nat × AV)} {St : List AV} {S : SS} : ev c 146 33 [l0, l1, l2, l3, l4, l5, l6] L2 (aI y :: aI x :: St) S = if x = y then ev c 146 36 [l0, l1, l2, l3, l4, l5, l6] L2 St S else ev c 146 40 [l0, l1, l2, l3, l4, l5, l6] L2 St S := (ev_br i146_33 rfl).trans (ite_not _ _ _)
theorem i146_36 : insAt 146 36 = some (.iconst 0, 1, (0, 0, 0, 0), 0) := rfl
theorem s146_36 {c : Nat → List AV → SS → Option Out} {l0 l1 l2 l3 l4 l5 l6 : Option AV} {L2 : List (Nat × AV)} {St : List AV} {S : SS} : ev c 146 36 [l0, l1, l2, l3, l4, l5, l6] L2 St S = ev c 146 37 [l0, l1, l2, l3, l4, l5, l6] L2 (aI 0 :: St) S := ev_go i146_36 rfl
theorem i146_37 : insAt 146 37 = some (.goto 18, 3, (0, 0, 0, 0), 0) := rfl
theorem s146_37 {c : Nat → List AV → SS → Option Out} {l0 l1 l2 l3 l4 l5 l6 : Option AV} {L2 : List (Nat × AV)} {St : List AV} {S : SS} : ev c 146 37 [l0, l1, l2, l3, l4, l5, l6] L2 St S = ev c 146 55 [l0, l1, l2, l3, l4, l5, l6] L2 St S := ev_go i146_37 rfl
theorem i146_40 : insAt 146 40 = some (.aload_n 0, 1, (0, 0, 0, 0), 0) := rfl
theorem s146_40 {c : Nat → List AV → SS → Option Out} {l1 l2 l3 l4 l5 l6 : Option AV} {o : OId} {L2 : List (Nat × AV)} {St : List AV} {S : SS} : ev c 146 40 [some (aR o), l1, l2, l3, l4, l5, l6] L2 St S = ev c 146 41 [some (aR o), l1, l2, l3, l4, l5, l6] L2 (aR o :: St) S := ev_go i146_40 rfl
theorem i146_41 : insAt 146 41 = some (.getfield 36, 3, (8, 0, 0, 0), 65) := rfl
theorem s146_41 {c : Nat → List AV → SS → Option Out} {l0 l1 l2 l3 l4 l5 l6 : Option AV} {j t : Nat} {L2 : List (Nat × AV)} {St : List AV} {S : SS} : ev c 146 41 [l0, l1, l2, l3, l4, l5, l6] L2 (aR (8, j, t) :: St) S = ev c 146 44 [l0, l1, l2, l3, l4, l5, l6] L2 (S.2.2.1 (8, j, t) 0 :: St) S := ev_go i146_41 rfl
theorem i146_44 : insAt 146 44 = some (.iload_n 3, 1, (0, 0, 0, 0), 0) := rfl
theorem s146_44 {c : Nat → List AV → SS → Option Out} {l0 l1 l2 l4 l5 l6 : Option AV} {x : Int32} {L2 : List (Nat × AV)} {St : List AV} {S : SS} : ev c 146 44 [l0, l1, l2, some (aI x), l4, l5, l6] L2 St S = ev c 146 45 [l0, l1, l2, some (aI x), l4, l5, l6] L2 (aI x :: St) S := ev_go i146_44 rfl
theorem i146_45 : insAt 146 45 = some (.invokevirtual 126, 3, (76, 1, 3, 6), 197) := rfl
theorem s146_45 {c : Nat → List AV → SS → Option Out} {l0 l1 l2 l3 l4 l5 l6 : Option AV} {a0 : Int32} {j t : Nat} {L2 : List (Nat × AV)} {S : SS} : ev c 146 45 [l0, l1, l2, l3, l4, l5, l6] L2 [aI a0, aR (6, j, t)] S = ck (c 76 [aR (6, j, t), aI a0] S) (fun v S' => ev c 146 48 [l0, l1, l2, l3, l4, l5, l6] L2 (v.toList ++ []) S') := ev_call i146_45 rfl
theorem i146_48 : insAt 146 48 = some (.iconst 1, 1, (0, 0, 0, 0), 0) := rfl
theorem s146_48 {c : Nat → List AV → SS → Option Out} {l0 l1 l2 l3 l4 l5 l6 : Option AV} {L2 : List (Nat × AV)} {St : List AV} {S : SS} : ev c 146 48 [l0, l1, l2, l3, l4, l5, l6] L2 St S = ev c 146 49 [l0, l1, l2, l3, l4, l5, l6] L2 (aI 1 :: St) S := ev_go i146_48 rfl
theorem i146_49 : insAt 146 49 = some (.iload 4, 2, (0, 0, 0, 0), 0) := rfl
theorem s146_49 {c : Nat → List AV → SS → Option Out} {l0 l1 l2 l3 l5 l6 : Option AV} {x : Int32} {L2 : List (Nat × AV)} {St : List AV} {S : SS} : ev c 146 49 [l0, l1, l2, l3, some (aI x), l5, l6] L2 St S = ev c 146 51 [l0, l1, l2, l3, some (aI x), l5, l6] L2 (aI x :: St) S := ev_go i146_49 rfl
theorem i146_51 : insAt 146 51 = some (.ishl, 1, (0, 0, 0, 0), 0) := rfl
theorem s146_51 {c : Nat → List AV → SS → Option Out} {l0 l1 l2 l3 l4 l5 l6 : Option AV} {x y : Int32} {L2 : List (Nat × AV)} {St : List AV} {S : SS} : ev c 146 51 [l0, l1, l2, l3, l4, l5, l6] L2 (aI y :: aI x :: St) S = ev c 146 52 [l0, l1, l2, l3, l4, l5, l6] L2 (aI (x <<< (y &&& 31)) :: St) S := ev_go i146_51 rfl
theorem i146_52 : insAt 146 52 = some (.iconst (-1), 1, (0, 0, 0, 0), 0) := rfl
theorem s146_52 {c : Nat → List AV → SS → Option Out} {l0 l1 l2 l3 l4 l5 l6 : Option AV} {L2 : List (Nat × AV)} {St : List AV} {S : SS} : ev c 146 52 [l0, l1, l2, l3, l4, l5, l6] L2 St S = ev c 146 53 [l0, l1, l2, l3, l4, l5, l6] L2 (aI (-1) :: St) S := ev_go i146_52 rfl
theorem i146_53 : insAt 146 53 = some (.ixor, 1, (0, 0, 0, 0), 0) := rfl
theorem s146_53 {c : Nat → List AV → SS → Option Out} {l0 l1 l2 l3 l4 l5 l6 : Option AV} {x y : Int32} {L2 : List (Nat × AV)} {St : List AV} {S : SS} : ev c 146 53 [l0, l1, l2, l3, l4, l5, l6] L2 (aI y :: aI x :: St) S = ev c 146 54 [l0, l1, l2, l3, l4, l5, l6] L2 (aI (x ^^^ y) :: St) S := ev_go i146_53 rfl
theorem i146_54 : insAt 146 54 = some (.iand, 1, (0, 0, 0, 0), 0) := rfl
theorem s146_54 {c : Nat → List AV → SS → Option Out} {l0 l1 l2 l3 l4 l5 l6 : Option AV} {x y : Int32} {L2 : List (Nat × AV)} {St : List AV} {S : SS} : ev c 146 54 [l0, l1, l2, l3, l4, l5, l6] L2 (aI y :: aI x :: St) S = ev c 146 55 [l0, l1, l2, l3, l4, l5, l6] L2 (aI (x &&& y) :: St) S := ev_go i146_54 rfl
theorem i146_55 : insAt 146 55 = some (.istore 5, 2, (0, 0, 0, 0), 0) := rfl
theorem s146_55 {c : Nat → List AV → SS → Option Out} {l0 l1 l2 l3 l4 l5 l6 : Option AV} {x : Int32} {L2 : List (Nat × AV)} {St : List AV} {S : SS} : ev c 146 55 [l0, l1, l2, l3, l4, l5, l6] L2 (aI x :: St) S = ev c 146 57 [l0, l1, l2, l3, l4, some (aI x), l6] (kil L2 5) St S := ev_go i146_55 rfl
theorem i146_57 : insAt 146 57 = some (.iconst 0, 1, (0, 0, 0, 0), 0) := rfl
theorem s146_57 {c : Nat → List AV → SS → Option Out} {l0 l1 l2 l3 l4 l5 l6 : Option AV} {L2 : List (Nat × AV)} {St : List AV} {S : SS} : ev c 146 57 [l0, l1, l2, l3, l4, l5, l6] L2 St S = ev c 146 58 [l0, l1, l2, l3, l4, l5, l6] L2 (aI 0 :: St) S := ev_go i146_57 rfl
theorem i146_58 : insAt 146 58 = some (.istore 6, 2, (0, 0, 0, 0), 0) := rfl
theorem s146_58 {c : Nat → List AV → SS → Option Out} {l0 l1 l2 l3 l4 l5 l6 : Option AV} {x : Int32} {L2 : List (Nat × AV)} {St : List AV} {S : SS} : ev c 146 58 [l0, l1, l2, l3, l4, l5, l6] L2 (aI x :: St) S = ev c 146 60 [l0, l1, l2, l3, l4, l5, some (aI x)] (kil L2 6) St S := ev_go i146_58 rfl
theorem i146_60 : insAt 146 60 = some (.iload 6, 2, (0, 0, 0, 0), 0) := rfl
theorem s146_60 {c : Nat → List AV → SS → Option Out} {l0 l1 l2 l3 l4 l5 : Option AV} {x : Int32} {L2 : List (Nat × AV)} {St : List AV} {S : SS} : ev c 146 60 [l0, l1, l2, l3, l4, l5, some (aI x)] L2 St S = ev c 146 62 [l0, l1, l2, l3, l4, l5, some (aI x)] L2 (aI x :: St) S := ev_go i146_60 rfl
theorem i146_62 : insAt 146 62 = some (.bipush 8, 2, (0, 0, 0, 0), 0) := rfl
theorem s146_62 {c : Nat → List AV → SS → Option Out} {l0 l1 l2 l3 l4 l5 l6 : Option AV} {L2 : List (Nat × AV)} {St : List AV} {S : SS} : ev c 146 62 [l0, l1, l2, l3, l4, l5, l6] L2 St S = ev c 146 64 [l0, l1, l2, l3, l4, l5, l6] L2 (aI 8 :: St) S := ev_go i146_62 rfl
theorem i146_64 : insAt 146 64 = some (.if_icmp .ge 48, 3, (0, 0, 0, 0), 0) := rfl
theorem s146_64 {c : Nat → List AV → SS → Option Out} {l0 l1 l2 l3 l4 l5 l6 : Option AV} {x y : Int32} {L2 : List (Nat × AV)} {St : List AV} {S : SS} : ev c 146 64 [l0, l1, l2, l3, l4, l5, l6] L2 (aI y :: aI x :: St) S = if y ≤ x then ev c 146 112 [l0, l1, l2, l3, l4, l5, l6] L2 St S else ev c 146 67 [l0, l1, l2, l3, l4, l5, l6] L2 St S := ev_br i146_64 rfl
theorem i146_67 : insAt 146 67 = some (.iload 5, 2, (0, 0, 0, 0), 0) := rfl
theorem s146_67 {c : Nat → List AV → SS → Option Out} {l0 l1 l2 l3 l4 l6 : Option AV} {x : Int32} {L2 : List (Nat × AV)} {St : List AV} {S : SS} : ev c 146 67 [l0, l1, l2, l3, l4, some (aI x), l6] L2 St S = ev c 146 69 [l0, l1, l2, l3, l4, some (aI x), l6] L2 (aI x :: St) S := ev_go i146_67 rfl
theorem i146_69 : insAt 146 69 = some (.i2l, 1, (0, 0, 0, 0), 0) := rfl
theorem s146_69 {c : Nat → List AV → SS → Option Out} {l0 l1 l2 l3 l4 l5 l6 : Option AV} {x : Int32} {L2 : List (Nat × AV)} {St : List AV} {S : SS} : ev c 146 69 [l0, l1, l2, l3, l4, l5, l6] L2 (aI x :: St) S = ev c 146 70 [l0, l1, l2, l3, l4, l5, l6] L2 (aL x.toInt64 :: St) S := ev_go i146_69 rfl
theorem i146_70 : insAt 146 70 = some (.iload 6, 2, (0, 0, 0, 0), 0) := rfl
theorem s146_70 {c : Nat → List AV → SS → Option Out} {l0 l1 l2 l3 l4 l5 : Option AV} {x : Int32} {L2 : List (Nat × AV)} {St : List AV} {S : SS} : ev c 146 70 [l0, l1, l2, l3, l4, l5, some (aI x)] L2 St S = ev c 146 72 [l0, l1, l2, l3, l4, l5, some (aI x)] L2 (aI x :: St) S := ev_go i146_70 rfl
theorem i146_72 : insAt 146 72 = some (.invokestatic 129, 3, (42, 2, 1, 0), 189) := rfl
theorem s146_72 {c : Nat → List AV → SS → Option Out} {l0 l1 l2 l3 l4 l5 l6 : Option AV} {a0 : Int64} {a1 : Int32} {L2 : List (Nat × AV)} {S : SS} : ev c 146 72 [l0, l1, l2, l3, l4, l5, l6] L2 [aI a1, aL a0] S = ck (c 42 [aL a0, aI a1] S) (fun v S' => ev c 146 75 [l0, l1, l2, l3, l4, l5, l6] L2 (v.toList ++ []) S') := ev_call i146_72 rfl
theorem i146_75 : insAt 146 75 = some (.ifCond .eq 31, 3, (0, 0, 0, 0), 0) := rfl
theorem s146_75 {c : Nat → List AV → SS → Option Out} {l0 l1 l2 l3 l4 l5 l6 : Option AV} {x : Int32} {L2 : List (Nat × AV)} {St : List AV} {S : SS} : ev c 146 75 [l0, l1, l2, l3, l4, l5, l6] L2 (aI x :: St) S = if x = 0 then ev c 146 106 [l0, l1, l2, l3, l4, l5, l6] L2 St S else ev c 146 78 [l0, l1, l2, l3, l4, l5, l6] L2 St S := ev_br i146_75 rfl
theorem i146_78 : insAt 146 78 = some (.aload_n 0, 1, (0, 0, 0, 0), 0) := rfl
theorem s146_78 {c : Nat → List AV → SS → Option Out} {l1 l2 l3 l4 l5 l6 : Option AV} {o : OId} {L2 : List (Nat × AV)} {St : List AV} {S : SS} : ev c 146 78 [some (aR o), l1, l2, l3, l4, l5, l6] L2 St S = ev c 146 79 [some (aR o), l1, l2, l3, l4, l5, l6] L2 (aR o :: St) S := ev_go i146_78 rfl
theorem i146_79 : insAt 146 79 = some (.getfield 36, 3, (8, 0, 0, 0), 65) := rfl
theorem s146_79 {c : Nat → List AV → SS → Option Out} {l0 l1 l2 l3 l4 l5 l6 : Option AV} {j t : Nat} {L2 : List (Nat × AV)} {St : List AV} {S : SS} : ev c 146 79 [l0, l1, l2, l3, l4, l5, l6] L2 (aR (8, j, t) :: St) S = ev c 146 82 [l0, l1, l2, l3, l4, l5, l6] L2 (S.2.2.1 (8, j, t) 0 :: St) S := ev_go i146_79 rfl
theorem i146_82 : insAt 146 82 = some (.getfield 95, 3, (6, 3, 1, 0), 191) := rfl
theorem s146_82 {c : Nat → List AV → SS → Option Out} {l0 l1 l2 l3 l4 l5 l6 : Option AV} {j t : Nat} {L2 : List (Nat × AV)} {St : List AV} {S : SS} : ev c 146 82 [l0, l1, l2, l3, l4, l5, l6] L2 (aR (6, j, t) :: St) S = ev c 146 85 [l0, l1, l2, l3, l4, l5, l6] L2 (S.2.2.1 (6, j, t) 3 :: St) S := ev_go i146_82 rfl
theorem i146_85 : insAt 146 85 = some (.iload_n 3, 1, (0, 0, 0, 0), 0) := rfl
theorem s146_85 {c : Nat → List AV → SS → Option Out} {l0 l1 l2 l4 l5 l6 : Option AV} {x : Int32} {L2 : List (Nat × AV)} {St : List AV} {S : SS} : ev c 146 85 [l0, l1, l2, some (aI x), l4, l5, l6] L2 St S = ev c 146 86 [l0, l1, l2, some (aI x), l4, l5, l6] L2 (aI x :: St) S := ev_go i146_85 rfl
theorem i146_86 : insAt 146 86 = some (.iload 6, 2, (0, 0, 0, 0), 0) := rfl
theorem s146_86 {c : Nat → List AV → SS → Option Out} {l0 l1 l2 l3 l4 l5 : Option AV} {x : Int32} {L2 : List (Nat × AV)} {St : List AV} {S : SS} : ev c 146 86 [l0, l1, l2, l3, l4, l5, some (aI x)] L2 St S = ev c 146 88 [l0, l1, l2, l3, l4, l5, some (aI x)] L2 (aI x :: St) S := ev_go i146_86 rfl
theorem i146_88 : insAt 146 88 = some (.invokestatic 85, 3, (35, 3, 1, 0), 180) := rfl
theorem s146_88 {c : Nat → List AV → SS → Option Out} {l0 l1 l2 l3 l4 l5 l6 : Option AV} {a0 : OId} {a1 : Int32} {a2 : Int32} {L2 : List (Nat × AV)} {S : SS} : ev c 146 88 [l0, l1, l2, l3, l4, l5, l6] L2 [aI a2, aI a1, aR a0] S = ck (c 35 [aR a0, aI a1, aI a2] S) (fun v S' => ev c 146 91 [l0, l1, l2, l3, l4, l5, l6] L2 (v.toList ++ []) S') := ev_call i146_88 rfl
theorem i146_91 : insAt 146 91 = some (.aload_n 0, 1, (0, 0, 0, 0), 0) := rfl
theorem s146_91 {c : Nat → List AV → SS → Option Out} {l1 l2 l3 l4 l5 l6 : Option AV} {o : OId} {L2 : List (Nat × AV)} {St : List AV} {S : SS} : ev c 146 91 [some (aR o), l1, l2, l3, l4, l5, l6] L2 St S = ev c 146 92 [some (aR o), l1, l2, l3, l4, l5, l6] L2 (aR o :: St) S := ev_go i146_91 rfl
theorem i146_92 : insAt 146 92 = some (.getfield 26, 3, (8, 4, 0, 0), 62) := rfl
theorem s146_92 {c : Nat → List AV → SS → Option Out} {l0 l1 l2 l3 l4 l5 l6 : Option AV} {j t : Nat} {L2 : List (Nat × AV)} {St : List AV} {S : SS} : ev c 146 92 [l0, l1, l2, l3, l4, l5, l6] L2 (aR (8, j, t) :: St) S = ev c 146 95 [l0, l1, l2, l3, l4, l5, l6] L2 (S.2.2.1 (8, j, t) 4 :: St) S := ev_go i146_92 rfl
theorem i146_95 : insAt 146 95 = some (.iload_n 2, 1, (0, 0, 0, 0), 0) := rfl
theorem s146_95 {c : Nat → List AV → SS → Option Out} {l0 l1 l3 l4 l5 l6 : Option AV} {x : Int32} {L2 : List (Nat × AV)} {St : List AV} {S : SS} : ev c 146 95 [l0, l1, some (aI x), l3, l4, l5, l6] L2 St S = ev c 146 96 [l0, l1, some (aI x), l3, l4, l5, l6] L2 (aI x :: St) S := ev_go i146_95 rfl
theorem i146_96 : insAt 146 96 = some (.aload_n 0, 1, (0, 0, 0, 0), 0) := rfl
theorem s146_96 {c : Nat → List AV → SS → Option Out} {l1 l2 l3 l4 l5 l6 : Option AV} {o : OId} {L2 : List (Nat × AV)} {St : List AV} {S : SS} : ev c 146 96 [some (aR o), l1, l2, l3, l4, l5, l6] L2 St S = ev c 146 97 [some (aR o), l1, l2, l3, l4, l5, l6] L2 (aR o :: St) S := ev_go i146_96 rfl
theorem i146_97 : insAt 146 97 = some (.invokevirtual 147, 3, (144, 0, 2, 8), 268) := rfl
theorem s146_97 {c : Nat → List AV → SS → Option Out} {l0 l1 l2 l3 l4 l5 l6 : Option AV} {t0 t1 : AV} {j t : Nat} {L2 : List (Nat × AV)} {S : SS} : ev c 146 97 [l0, l1, l2, l3, l4, l5, l6] L2 [aR (8, j, t), t0, t1] S = ck (c 144 [aR (8, j, t)] S) (fun v S' => ev c 146 100 [l0, l1, l2, l3, l4, l5, l6] L2 (v.toList ++ [t0, t1]) S') := ev_call i146_97 rfl
theorem i146_100 : insAt 146 100 = some (.invokestatic 85, 3, (35, 3, 1, 0), 180) := rfl
theorem s146_100 {c : Nat → List AV → SS → Option Out} {l0 l1 l2 l3 l4 l5 l6 : Option AV} {a0 : OId} {a1 : Int32} {a2 : Int32} {L2 : List (Nat × AV)} {S : SS} : ev c 146 100 [l0, l1, l2, l3, l4, l5, l6] L2 [aI a2, aI a1, aR a0] S = ck (c 35 [aR a0, aI a1, aI a2] S) (fun v S' => ev c 146 103 [l0, l1, l2, l3, l4, l5, l6] L2 (v.toList ++ []) S') := ev_call i146_100 rfl
theorem i146_103 : insAt 146 103 = some (.iinc 2 1, 3, (0, 0, 0, 0), 0) := rfl
theorem s146_103 {c : Nat → List AV → SS → Option Out} {l0 l1 l3 l4 l5 l6 : Option AV} {x : Int32} {L2 : List (Nat × AV)} {St : List AV} {S : SS} : ev c 146 103 [l0, l1, some (aI x), l3, l4, l5, l6] L2 St S = ev c 146 106 [l0, l1, some (aI (x + 1)), l3, l4, l5, l6] (kil L2 2) St S := ev_go i146_103 rfl
theorem i146_106 : insAt 146 106 = some (.iinc 6 1, 3, (0, 0, 0, 0), 0) := rfl
theorem s146_106 {c : Nat → List AV → SS → Option Out} {l0 l1 l2 l3 l4 l5 : Option AV} {x : Int32} {L2 : List (Nat × AV)} {St : List AV} {S : SS} : ev c 146 106 [l0, l1, l2, l3, l4, l5, some (aI x)] L2 St S = ev c 146 109 [l0, l1, l2, l3, l4, l5, some (aI (x + 1))] (kil L2 6) St S := ev_go i146_106 rfl
theorem i146_109 : insAt 146 109 = some (.goto (-49), 3, (0, 0, 0, 0), 0) := rfl
theorem s146_109 {c : Nat → List AV → SS → Option Out} {l0 l1 l2 l3 l4 l5 l6 : Option AV} {L2 : List (Nat × AV)} {St : List AV} {S : SS} : ev c 146 109 [l0, l1, l2, l3, l4, l5, l6] L2 St S = ev c 146 60 [l0, l1, l2, l3, l4, l5, l6] L2 St S := ev_go i146_109 rfl
theorem i146_112 : insAt 146 112 = some (.aload_n 0, 1, (0, 0, 0, 0), 0) := rfl
theorem s146_112 {c : Nat → List AV → SS → Option Out} {l1 l2 l3 l4 l5 l6 : Option AV} {o : OId} {L2 : List (Nat × AV)} {St : List AV} {S : SS} : ev c 146 112 [some (aR o), l1, l2, l3, l4, l5, l6] L2 St S = ev c 146 113 [some (aR o), l1, l2, l3, l4, l5, l6] L2 (aR o :: St) S := ev_go i146_112 rfl
theorem i146_113 : insAt 146 113 = some (.getfield 36, 3, (8, 0, 0, 0), 65) := rfl
theorem s146_113 {c : Nat → List AV → SS → Option Out} {l0 l1 l2 l3 l4 l5 l6 : Option AV} {j t : Nat} {L2 : List (Nat × AV)} {St : List AV} {S : SS} : ev c 146 113 [l0, l1, l2, l3, l4, l5, l6] L2 (aR (8, j, t) :: St) S = ev c 146 116 [l0, l1, l2, l3, l4, l5, l6] L2 (S.2.2.1 (8, j, t) 0 :: St) S := ev_go i146_113 rfl
theorem i146_116 : insAt 146 116 = some (.getfield 95, 3, (6, 3, 1, 0), 191) := rfl
theorem s146_116 {c : Nat → List AV → SS → Option Out} {l0 l1 l2 l3 l4 l5 l6 : Option AV} {j t : Nat} {L2 : List (Nat × AV)} {St : List AV} {S : SS} : ev c 146 116 [l0, l1, l2, l3, l4, l5, l6] L2 (aR (6, j, t) :: St) S = ev c 146 119 [l0, l1, l2, l3, l4, l5, l6] L2 (S.2.2.1 (6, j, t) 3 :: St) S := ev_go i146_116 rfl
theorem i146_119 : insAt 146 119 = some (.iload_n 3, 1, (0, 0, 0, 0), 0) := rfl
theorem s146_119 {c : Nat → List AV → SS → Option Out} {l0 l1 l2 l4 l5 l6 : Option AV} {x : Int32} {L2 : List (Nat × AV)} {St : List AV} {S : SS} : ev c 146 119 [l0, l1, l2, some (aI x), l4, l5, l6] L2 St S = ev c 146 120 [l0, l1, l2, some (aI x), l4, l5, l6] L2 (aI x :: St) S := ev_go i146_119 rfl
theorem i146_120 : insAt 146 120 = some (.iload 4, 2, (0, 0, 0, 0), 0) := rfl
theorem s146_120 {c : Nat → List AV → SS → Option Out} {l0 l1 l2 l3 l5 l6 : Option AV} {x : Int32} {L2 : List (Nat × AV)} {St : List AV} {S : SS} : ev c 146 120 [l0, l1, l2, l3, some (aI x), l5, l6] L2 St S = ev c 146 122 [l0, l1, l2, l3, some (aI x), l5, l6] L2 (aI x :: St) S := ev_go i146_120 rfl
theorem i146_122 : insAt 146 122 = some (.invokestatic 85, 3, (35, 3, 1, 0), 180) := rfl
theorem s146_122 {c : Nat → List AV → SS → Option Out} {l0 l1 l2 l3 l4 l5 l6 : Option AV} {a0 : OId} {a1 : Int32} {a2 : Int32} {L2 : List (Nat × AV)} {S : SS} : ev c 146 122 [l0, l1, l2, l3, l4, l5, l6] L2 [aI a2, aI a1, aR a0] S = ck (c 35 [aR a0, aI a1, aI a2] S) (fun v S' => ev c 146 125 [l0, l1, l2, l3, l4, l5, l6] L2 (v.toList ++ []) S') := ev_call i146_122 rfl
theorem i146_125 : insAt 146 125 = some (.iinc 3 1, 3, (0, 0, 0, 0), 0) := rfl
theorem s146_125 {c : Nat → List AV → SS → Option Out} {l0 l1 l2 l4 l5 l6 : Option AV} {x : Int32} {L2 : List (Nat × AV)} {St : List AV} {S : SS} : ev c 146 125 [l0, l1, l2, some (aI x), l4, l5, l6] L2 St S = ev c 146 128 [l0, l1, l2, some (aI (x + 1)), l4, l5, l6] (kil L2 3) St S := ev_go i146_125 rfl
theorem i146_128 : insAt 146 128 = some (.goto (-124), 3, (0, 0, 0, 0), 0) := rfl
theorem s146_128 {c : Nat → List AV → SS → Option Out} {l0 l1 l2 l3 l4 l5 l6 : Option AV} {L2 : List (Nat × AV)} {St : List AV} {S : SS} : ev c 146 128 [l0, l1, l2, l3, l4, l5, l6] L2 St S = ev c 146 4 [l0, l1, l2, l3, l4, l5, l6] L2 St S := ev_go i146_128 rfl
theorem i146_131 : insAt 146 131 = some (.iload_n 2, 1, (0, 0, 0, 0), 0) := rfl
theorem s146_131 {c : Nat → List AV → SS → Option Out} {l0 l1 l3 l4 l5 l6 : Option AV} {x : Int32} {L2 : List (Nat × AV)} {St : List AV} {S : SS} : ev c 146 131 [l0, l1, some (aI x), l3, l4, l5, l6] L2 St S = ev c 146 132 [l0, l1, some (aI x), l3, l4, l5, l6] L2 (aI x :: St) S := ev_go i146_131 rfl
theorem i146_132 : insAt 146 132 = some (.ireturn, 1, (0, 0, 0, 0), 0) := rfl
theorem s146_132 {c : Nat → List AV → SS → Option Out} {l0 l1 l2 l3 l4 l5 l6 : Option AV} {x : Int32} {L2 : List (Nat × AV)} {S : SS} : ev c 146 132 [l0, l1, l2, l3, l4, l5, l6] L2 [aI x] S = some (.inl (some (aI x)), S) := ev_end i146_132 rfl
theorem m146 {d : Nat} {o : OId} {a0 : Int32} {S : SS} : evm (d + 1) 146 [aR o, aI a0] S = ev (evm d) 146 0 [some (aR o), some (aI a0), none, none, none, none, none] [] [] S := evm_s (n := 7) rfl (Nat.le_of_ble_eq_true rfl) rfl rfl
/-! FrequencyOffice$Search.serveChange(LFrequencyOffice$Books;II)V -/
theorem i150_0 : insAt 150 0 = some (.aload_n 0, 1, (0, 0, 0, 0), 0) := rfl
theorem s150_0 {c : Nat → List AV → SS → Option Out} {l1 l2 l3 : Option AV} {o : OId} {L2 : List (Nat × AV)} {St : List AV} {S : SS} : ev c 150 0 [some (aR o), l1, l2, l3] L2 St S = ev c 150 1 [some (aR o), l1, l2, l3] L2 (aR o :: St) S := ev_go i150_0 rfl
theorem i150_1 : insAt 150 1 = some (.getfield 36, 3, (8, 0, 0, 0), 65) := rfl
theorem s150_1 {c : Nat → List AV → SS → Option Out} {l0 l1 l2 l3 : Option AV} {j t : Nat} {L2 : List (Nat × AV)} {St : List AV} {S : SS} : ev c 150 1 [l0, l1, l2, l3] L2 (aR (8, j, t) :: St) S = ev c 150 4 [l0, l1, l2, l3] L2 (S.2.2.1 (8, j, t) 0 :: St) S := ev_go i150_1 rfl
theorem i150_4 : insAt 150 4 = some (.aload_n 1, 1, (0, 0, 0, 0), 0) := rfl
theorem s150_4 {c : Nat → List AV → SS → Option Out} {l0 l2 l3 : Option AV} {o : OId} {L2 : List (Nat × AV)} {St : List AV} {S : SS} : ev c 150 4 [l0, some (aR o), l2, l3] L2 St S = ev c 150 5 [l0, some (aR o), l2, l3] L2 (aR o :: St) S := ev_go i150_4 rfl
theorem i150_5 : insAt 150 5 = some (.iload_n 2, 1, (0, 0, 0, 0), 0) := rfl
theorem s150_5 {c : Nat → List AV → SS → Option Out} {l0 l1 l3 : Option AV} {x : Int32} {L2 : List (Nat × AV)} {St : List AV} {S : SS} : ev c 150 5 [l0, l1, some (aI x), l3] L2 St S = ev c 150 6 [l0, l1, some (aI x), l3] L2 (aI x :: St) S := ev_go i150_5 rfl
theorem i150_6 : insAt 150 6 = some (.invokevirtual 40, 3, (33, 2, 3, 6), 171) := rfl
theorem s150_6 {c : Nat → List AV → SS → Option Out} {l0 l1 l2 l3 : Option AV} {a0 : OId} {a1 : Int32} {j t : Nat} {L2 : List (Nat × AV)} {S : SS} : ev c 150 6 [l0, l1, l2, l3] L2 [aI a1, aR a0, aR (6, j, t)] S = ck (c 33 [aR (6, j, t), aR a0, aI a1] S) (fun v S' => ev c 150 9 [l0, l1, l2, l3] L2 (v.toList ++ []) S') := ev_call i150_6 rfl
theorem i150_9 : insAt 150 9 = some (.aload_n 0, 1, (0, 0, 0, 0), 0) := rfl
theorem s150_9 {c : Nat → List AV → SS → Option Out} {l1 l2 l3 : Option AV} {o : OId} {L2 : List (Nat × AV)} {St : List AV} {S : SS} : ev c 150 9 [some (aR o), l1, l2, l3] L2 St S = ev c 150 10 [some (aR o), l1, l2, l3] L2 (aR o :: St) S := ev_go i150_9 rfl
theorem i150_10 : insAt 150 10 = some (.aload_n 1, 1, (0, 0, 0, 0), 0) := rfl
theorem s150_10 {c : Nat → List AV → SS → Option Out} {l0 l2 l3 : Option AV} {o : OId} {L2 : List (Nat × AV)} {St : List AV} {S : SS} : ev c 150 10 [l0, some (aR o), l2, l3] L2 St S = ev c 150 11 [l0, some (aR o), l2, l3] L2 (aR o :: St) S := ev_go i150_10 rfl
theorem i150_11 : insAt 150 11 = some (.iload_n 2, 1, (0, 0, 0, 0), 0) := rfl
theorem s150_11 {c : Nat → List AV → SS → Option Out} {l0 l1 l3 : Option AV} {x : Int32} {L2 : List (Nat × AV)} {St : List AV} {S : SS} : ev c 150 11 [l0, l1, some (aI x), l3] L2 St S = ev c 150 12 [l0, l1, some (aI x), l3] L2 (aI x :: St) S := ev_go i150_11 rfl
theorem i150_12 : insAt 150 12 = some (.invokevirtual 79, 3, (151, 2, 2, 8), 274) := rfl
theorem s150_12 {c : Nat → List AV → SS → Option Out} {l0 l1 l2 l3 : Option AV} {a0 : OId} {a1 : Int32} {j t : Nat} {L2 : List (Nat × AV)} {S : SS} : ev c 150 12 [l0, l1, l2, l3] L2 [aI a1, aR a0, aR (8, j, t)] S = ck (c 151 [aR (8, j, t), aR a0, aI a1] S) (fun v S' => ev c 150 15 [l0, l1, l2, l3] L2 (v.toList ++ []) S') := ev_call i150_12 rfl
theorem i150_15 : insAt 150 15 = some (.aload_n 0, 1, (0, 0, 0, 0), 0) := rfl
theorem s150_15 {c : Nat → List AV → SS → Option Out} {l1 l2 l3 : Option AV} {o : OId} {L2 : List (Nat × AV)} {St : List AV} {S : SS} : ev c 150 15 [some (aR o), l1, l2, l3] L2 St S = ev c 150 16 [some (aR o), l1, l2, l3] L2 (aR o :: St) S := ev_go i150_15 rfl
theorem i150_16 : insAt 150 16 = some (.iconst 1, 1, (0, 0, 0, 0), 0) := rfl
theorem s150_16 {c : Nat → List AV → SS → Option Out} {l0 l1 l2 l3 : Option AV} {L2 : List (Nat × AV)} {St : List AV} {S : SS} : ev c 150 16 [l0, l1, l2, l3] L2 St S = ev c 150 17 [l0, l1, l2, l3] L2 (aI 1 :: St) S := ev_go i150_16 rfl
theorem i150_17 : insAt 150 17 = some (.iload_n 3, 1, (0, 0, 0, 0), 0) := rfl
theorem s150_17 {c : Nat → List AV → SS → Option Out} {l0 l1 l2 : Option AV} {x : Int32} {L2 : List (Nat × AV)} {St : List AV} {S : SS} : ev c 150 17 [l0, l1, l2, some (aI x)] L2 St S = ev c 150 18 [l0, l1, l2, some (aI x)] L2 (aI x :: St) S := ev_go i150_17 rfl
theorem i150_18 : insAt 150 18 = some (.ishl, 1, (0, 0, 0, 0), 0) := rfl
theorem s150_18 {c : Nat → List AV → SS → Option Out} {l0 l1 l2 l3 : Option AV} {x y : Int32} {L2 : List (Nat × AV)} {St : List AV} {S : SS} : ev c 150 18 [l0, l1, l2, l3] L2 (aI y :: aI x :: St) S = ev c 150 19 [l0, l1, l2, l3] L2 (aI (x <<< (y &&& 31)) :: St) S := ev_go i150_18 rfl
theorem i150_19 : insAt 150 19 = some (.putfield 29, 3, (8, 5, 0, 0), 63) := rfl
theorem s150_19 {c : Nat → List AV → SS → Option Out} {l0 l1 l2 l3 : Option AV} {j t : Nat} {x : Int32} {L2 : List (Nat × AV)} {St : List AV} {S : SS} : ev c 150 19 [l0, l1, l2, l3] L2 (aI x :: aR (8, j, t) :: St) S = ev c 150 22 [l0, l1, l2, l3] L2 St (setI S.1 (8, j, t) 5 x, S.2) := ev_go i150_19 rfl
theorem i150_22 : insAt 150 22 = some (.return_, 1, (0, 0, 0, 0), 0) := rfl
theorem s150_22 {c : Nat → List AV → SS → Option Out} {l0 l1 l2 l3 : Option AV} {L2 : List (Nat × AV)} {S : SS} : ev c 150 22 [l0, l1, l2, l3] L2 [] S = some (.inl none, S) := ev_end i150_22 rfl
theorem m150 {d : Nat} {o : OId} {a0 : OId} {a1 : Int32} {a2 : Int32} {S : SS} : evm (d + 1) 150 [aR o, aR a0, aI a1, aI a2] S = ev (evm d) 150 0 [some (aR o), some (aR a0), some (aI a1), some (aI a2)] [] [] S := evm_s (n := 4) rfl (Nat.le_of_ble_eq_true rfl) rfl rfl
/-! FrequencyOffice$Search.serveLicensed(LFrequencyOffice$Books;I)V -/
theorem i151_0 : insAt 151 0 = some (.aload_n 0, 1, (0, 0, 0, 0), 0) := rfl
theorem s151_0 {c : Nat → List AV → SS → Option Out} {l1 l2 l3 l4 l5 : Option AV} {o : OId} {L2 : List (Nat × AV)} {St : List AV} {S : SS} : ev c 151 0 [some (aR o), l1, l2, l3, l4, l5] L2 St S = ev c 151 1 [some (aR o), l1, l2, l3, l4, l5] L2 (aR o :: St) S := ev_go i151_0 rfl
theorem i151_1 : insAt 151 1 = some (.sipush 255, 3, (0, 0, 0, 0), 0) := rfl
theorem s151_1 {c : Nat → List AV → SS → Option Out} {l0 l1 l2 l3 l4 l5 : Option AV} {L2 : List (Nat × AV)} {St : List AV} {S : SS} : ev c 151 1 [l0, l1, l2, l3, l4, l5] L2 St S = ev c 151 4 [l0, l1, l2, l3, l4, l5] L2 (aI 255 :: St) S := ev_go i151_1 rfl
theorem i151_4 : insAt 151 4 = some (.putfield 29, 3, (8, 5, 0, 0), 63) := rfl
theorem s151_4 {c : Nat → List AV → SS → Option Out} {l0 l1 l2 l3 l4 l5 : Option AV} {j t : Nat} {x : Int32} {L2 : List (Nat × AV)} {St : List AV} {S : SS} : ev c 151 4 [l0, l1, l2, l3, l4, l5] L2 (aI x :: aR (8, j, t) :: St) S = ev c 151 7 [l0, l1, l2, l3, l4, l5] L2 St (setI S.1 (8, j, t) 5 x, S.2) := ev_go i151_4 rfl
theorem i151_7 : insAt 151 7 = some (.aload_n 0, 1, (0, 0, 0, 0), 0) := rfl
theorem s151_7 {c : Nat → List AV → SS → Option Out} {l1 l2 l3 l4 l5 : Option AV} {o : OId} {L2 : List (Nat × AV)} {St : List AV} {S : SS} : ev c 151 7 [some (aR o), l1, l2, l3, l4, l5] L2 St S = ev c 151 8 [some (aR o), l1, l2, l3, l4, l5] L2 (aR o :: St) S := ev_go i151_7 rfl
theorem i151_8 : insAt 151 8 = some (.iconst (-1), 1, (0, 0, 0, 0), 0) := rfl
theorem s151_8 {c : Nat → List AV → SS → Option Out} {l0 l1 l2 l3 l4 l5 : Option AV} {L2 : List (Nat × AV)} {St : List AV} {S : SS} : ev c 151 8 [l0, l1, l2, l3, l4, l5] L2 St S = ev c 151 9 [l0, l1, l2, l3, l4, l5] L2 (aI (-1) :: St) S := ev_go i151_8 rfl
theorem i151_9 : insAt 151 9 = some (.putfield 33, 3, (8, 6, 0, 0), 64) := rfl
theorem s151_9 {c : Nat → List AV → SS → Option Out} {l0 l1 l2 l3 l4 l5 : Option AV} {j t : Nat} {x : Int32} {L2 : List (Nat × AV)} {St : List AV} {S : SS} : ev c 151 9 [l0, l1, l2, l3, l4, l5] L2 (aI x :: aR (8, j, t) :: St) S = ev c 151 12 [l0, l1, l2, l3, l4, l5] L2 St (setI S.1 (8, j, t) 6 x, S.2) := ev_go i151_9 rfl
theorem i151_12 : insAt 151 12 = some (.iconst 0, 1, (0, 0, 0, 0), 0) := rfl
theorem s151_12 {c : Nat → List AV → SS → Option Out} {l0 l1 l2 l3 l4 l5 : Option AV} {L2 : List (Nat × AV)} {St : List AV} {S : SS} : ev c 151 12 [l0, l1, l2, l3, l4, l5] L2 St S = ev c 151 13 [l0, l1, l2, l3, l4, l5] L2 (aI 0 :: St) S := ev_go i151_12 rfl
theorem i151_13 : insAt 151 13 = some (.istore_n 3, 1, (0, 0, 0, 0), 0) := rfl
theorem s151_13 {c : Nat → List AV → SS → Option Out} {l0 l1 l2 l3 l4 l5 : Option AV} {x : Int32} {L2 : List (Nat × AV)} {St : List AV} {S : SS} : ev c 151 13 [l0, l1, l2, l3, l4, l5] L2 (aI x :: St) S = ev c 151 14 [l0, l1, l2, some (aI x), l4, l5] (kil L2 3) St S := ev_go i151_13 rfl
theorem i151_14 : insAt 151 14 = some (.iload_n 3, 1, (0, 0, 0, 0), 0) := rfl
theorem s151_14 {c : Nat → List AV → SS → Option Out} {l0 l1 l2 l4 l5 : Option AV} {x : Int32} {L2 : List (Nat × AV)} {St : List AV} {S : SS} : ev c 151 14 [l0, l1, l2, some (aI x), l4, l5] L2 St S = ev c 151 15 [l0, l1, l2, some (aI x), l4, l5] L2 (aI x :: St) S := ev_go i151_14 rfl
theorem i151_15 : insAt 151 15 = some (.aload_n 0, 1, (0, 0, 0, 0), 0) := rfl
theorem s151_15 {c : Nat → List AV → SS → Option Out} {l1 l2 l3 l4 l5 : Option AV} {o : OId} {L2 : List (Nat × AV)} {St : List AV} {S : SS} : ev c 151 15 [some (aR o), l1, l2, l3, l4, l5] L2 St S = ev c 151 16 [some (aR o), l1, l2, l3, l4, l5] L2 (aR o :: St) S := ev_go i151_15 rfl
theorem i151_16 : insAt 151 16 = some (.getfield 36, 3, (8, 0, 0, 0), 65) := rfl
theorem s151_16 {c : Nat → List AV → SS → Option Out} {l0 l1 l2 l3 l4 l5 : Option AV} {j t : Nat} {L2 : List (Nat × AV)} {St : List AV} {S : SS} : ev c 151 16 [l0, l1, l2, l3, l4, l5] L2 (aR (8, j, t) :: St) S = ev c 151 19 [l0, l1, l2, l3, l4, l5] L2 (S.2.2.1 (8, j, t) 0 :: St) S := ev_go i151_16 rfl
theorem i151_19 : insAt 151 19 = some (.getfield 46, 3, (6, 0, 1, 0), 172) := rfl
theorem s151_19 {c : Nat → List AV → SS → Option Out} {l0 l1 l2 l3 l4 l5 : Option AV} {j t : Nat} {L2 : List (Nat × AV)} {St : List AV} {S : SS} : ev c 151 19 [l0, l1, l2, l3, l4, l5] L2 (aR (6, j, t) :: St) S = ev c 151 22 [l0, l1, l2, l3, l4, l5] L2 (aI (S.1 (6, j, t) 0) :: St) S := ev_go i151_19 rfl
theorem i151_22 : insAt 151 22 = some (.if_icmp .ge 62, 3, (0, 0, 0, 0), 0) := rfl
theorem s151_22 {c : Nat → List AV → SS → Option Out} {l0 l1 l2 l3 l4 l5 : Option AV} {x y : Int32} {L2 : List (Nat × AV)} {St : List AV} {S : SS} : ev c 151 22 [l0, l1, l2, l3, l4, l5] L2 (aI y :: aI x :: St) S = if y ≤ x then ev c 151 84 [l0, l1, l2, l3, l4, l5] L2 St S else ev c 151 25 [l0, l1, l2, l3, l4, l5] L2 St S := ev_br i151_22 rfl
theorem i151_25 : insAt 151 25 = some (.aload_n 0, 1, (0, 0, 0, 0), 0) := rfl
theorem s151_25 {c : Nat → List AV → SS → Option Out} {l1 l2 l3 l4 l5 : Option AV} {o : OId} {L2 : List (Nat × AV)} {St : List AV} {S : SS} : ev c 151 25 [some (aR o), l1, l2, l3, l4, l5] L2 St S = ev c 151 26 [some (aR o), l1, l2, l3, l4, l5] L2 (aR o :: St) S := ev_go i151_25 rfl
theorem i151_26 : insAt 151 26 = some (.getfield 36, 3, (8, 0, 0, 0), 65) := rfl
theorem s151_26 {c : Nat → List AV → SS → Option Out} {l0 l1 l2 l3 l4 l5 : Option AV} {j t : Nat} {L2 : List (Nat × AV)} {St : List AV} {S : SS} : ev c 151 26 [l0, l1, l2, l3, l4, l5] L2 (aR (8, j, t) :: St) S = ev c 151 29 [l0, l1, l2, l3, l4, l5] L2 (S.2.2.1 (8, j, t) 0 :: St) S := ev_go i151_26 rfl
theorem i151_29 : insAt 151 29 = some (.getfield 49, 3, (6, 1, 1, 0), 173) := rfl
theorem s151_29 {c : Nat → List AV → SS → Option Out} {l0 l1 l2 l3 l4 l5 : Option AV} {j t : Nat} {L2 : List (Nat × AV)} {St : List AV} {S : SS} : ev c 151 29 [l0, l1, l2, l3, l4, l5] L2 (aR (6, j, t) :: St) S = ev c 151 32 [l0, l1, l2, l3, l4, l5] L2 (S.2.2.1 (6, j, t) 1 :: St) S := ev_go i151_29 rfl
theorem i151_32 : insAt 151 32 = some (.iload_n 3, 1, (0, 0, 0, 0), 0) := rfl
theorem s151_32 {c : Nat → List AV → SS → Option Out} {l0 l1 l2 l4 l5 : Option AV} {x : Int32} {L2 : List (Nat × AV)} {St : List AV} {S : SS} : ev c 151 32 [l0, l1, l2, some (aI x), l4, l5] L2 St S = ev c 151 33 [l0, l1, l2, some (aI x), l4, l5] L2 (aI x :: St) S := ev_go i151_32 rfl
theorem i151_33 : insAt 151 33 = some (.invokestatic 52, 3, (31, 2, 1, 0), 174) := rfl
theorem s151_33 {c : Nat → List AV → SS → Option Out} {l0 l1 l2 l3 l4 l5 : Option AV} {a0 : OId} {a1 : Int32} {L2 : List (Nat × AV)} {S : SS} : ev c 151 33 [l0, l1, l2, l3, l4, l5] L2 [aI a1, aR a0] S = ck (c 31 [aR a0, aI a1] S) (fun v S' => ev c 151 36 [l0, l1, l2, l3, l4, l5] L2 (v.toList ++ []) S') := ev_call i151_33 rfl
theorem i151_36 : insAt 151 36 = some (.istore 4, 2, (0, 0, 0, 0), 0) := rfl
theorem s151_36 {c : Nat → List AV → SS → Option Out} {l0 l1 l2 l3 l4 l5 : Option AV} {x : Int32} {L2 : List (Nat × AV)} {St : List AV} {S : SS} : ev c 151 36 [l0, l1, l2, l3, l4, l5] L2 (aI x :: St) S = ev c 151 38 [l0, l1, l2, l3, some (aI x), l5] (kil L2 4) St S := ev_go i151_36 rfl
theorem i151_38 : insAt 151 38 = some (.aload_n 1, 1, (0, 0, 0, 0), 0) := rfl
theorem s151_38 {c : Nat → List AV → SS → Option Out} {l0 l2 l3 l4 l5 : Option AV} {o : OId} {L2 : List (Nat × AV)} {St : List AV} {S : SS} : ev c 151 38 [l0, some (aR o), l2, l3, l4, l5] L2 St S = ev c 151 39 [l0, some (aR o), l2, l3, l4, l5] L2 (aR o :: St) S := ev_go i151_38 rfl
theorem i151_39 : insAt 151 39 = some (.iload 4, 2, (0, 0, 0, 0), 0) := rfl
theorem s151_39 {c : Nat → List AV → SS → Option Out} {l0 l1 l2 l3 l5 : Option AV} {x : Int32} {L2 : List (Nat × AV)} {St : List AV} {S : SS} : ev c 151 39 [l0, l1, l2, l3, some (aI x), l5] L2 St S = ev c 151 41 [l0, l1, l2, l3, some (aI x), l5] L2 (aI x :: St) S := ev_go i151_39 rfl
theorem i151_41 : insAt 151 41 = some (.iload_n 2, 1, (0, 0, 0, 0), 0) := rfl
theorem s151_41 {c : Nat → List AV → SS → Option Out} {l0 l1 l3 l4 l5 : Option AV} {x : Int32} {L2 : List (Nat × AV)} {St : List AV} {S : SS} : ev c 151 41 [l0, l1, some (aI x), l3, l4, l5] L2 St S = ev c 151 42 [l0, l1, some (aI x), l3, l4, l5] L2 (aI x :: St) S := ev_go i151_41 rfl
theorem i151_42 : insAt 151 42 = some (.invokevirtual 89, 3, (119, 2, 3, 4), 275) := rfl
theorem s151_42 {c : Nat → List AV → SS → Option Out} {l0 l1 l2 l3 l4 l5 : Option AV} {a0 : Int32} {a1 : Int32} {j t : Nat} {L2 : List (Nat × AV)} {S : SS} : ev c 151 42 [l0, l1, l2, l3, l4, l5] L2 [aI a1, aI a0, aR (4, j, t)] S = ck (c 119 [aR (4, j, t), aI a0, aI a1] S) (fun v S' => ev c 151 45 [l0, l1, l2, l3, l4, l5] L2 (v.toList ++ []) S') := ev_call i151_42 rfl
theorem i151_45 : insAt 151 45 = some (.aload_n 1, 1, (0, 0, 0, 0), 0) := rfl
theorem s151_45 {c : Nat → List AV → SS → Option Out} {l0 l2 l3 l4 l5 : Option AV} {o : OId} {L2 : List (Nat × AV)} {St : List AV} {S : SS} : ev c 151 45 [l0, some (aR o), l2, l3, l4, l5] L2 St S = ev c 151 46 [l0, some (aR o), l2, l3, l4, l5] L2 (aR o :: St) S := ev_go i151_45 rfl
theorem i151_46 : insAt 151 46 = some (.getfield 72, 3, (4, 2, 1, 0), 178) := rfl
theorem s151_46 {c : Nat → List AV → SS → Option Out} {l0 l1 l2 l3 l4 l5 : Option AV} {j t : Nat} {L2 : List (Nat × AV)} {St : List AV} {S : SS} : ev c 151 46 [l0, l1, l2, l3, l4, l5] L2 (aR (4, j, t) :: St) S = ev c 151 49 [l0, l1, l2, l3, l4, l5] L2 (aI (S.1 (4, j, t) 2) :: St) S := ev_go i151_46 rfl
theorem i151_49 : insAt 151 49 = some (.aload_n 1, 1, (0, 0, 0, 0), 0) := rfl
theorem s151_49 {c : Nat → List AV → SS → Option Out} {l0 l2 l3 l4 l5 : Option AV} {o : OId} {L2 : List (Nat × AV)} {St : List AV} {S : SS} : ev c 151 49 [l0, some (aR o), l2, l3, l4, l5] L2 St S = ev c 151 50 [l0, some (aR o), l2, l3, l4, l5] L2 (aR o :: St) S := ev_go i151_49 rfl
theorem i151_50 : insAt 151 50 = some (.getfield 72, 3, (4, 2, 1, 0), 178) := rfl
theorem s151_50 {c : Nat → List AV → SS → Option Out} {l0 l1 l2 l3 l4 l5 : Option AV} {j t : Nat} {L2 : List (Nat × AV)} {St : List AV} {S : SS} : ev c 151 50 [l0, l1, l2, l3, l4, l5] L2 (aR (4, j, t) :: St) S = ev c 151 53 [l0, l1, l2, l3, l4, l5] L2 (aI (S.1 (4, j, t) 2) :: St) S := ev_go i151_50 rfl
theorem i151_53 : insAt 151 53 = some (.imul, 1, (0, 0, 0, 0), 0) := rfl
theorem s151_53 {c : Nat → List AV → SS → Option Out} {l0 l1 l2 l3 l4 l5 : Option AV} {x y : Int32} {L2 : List (Nat × AV)} {St : List AV} {S : SS} : ev c 151 53 [l0, l1, l2, l3, l4, l5] L2 (aI y :: aI x :: St) S = ev c 151 54 [l0, l1, l2, l3, l4, l5] L2 (aI (x * y) :: St) S := ev_go i151_53 rfl
theorem i151_54 : insAt 151 54 = some (.if_icmp .ge 7, 3, (0, 0, 0, 0), 0) := rfl
theorem s151_54 {c : Nat → List AV → SS → Option Out} {l0 l1 l2 l3 l4 l5 : Option AV} {x y : Int32} {L2 : List (Nat × AV)} {St : List AV} {S : SS} : ev c 151 54 [l0, l1, l2, l3, l4, l5] L2 (aI y :: aI x :: St) S = if y ≤ x then ev c 151 61 [l0, l1, l2, l3, l4, l5] L2 St S else ev c 151 57 [l0, l1, l2, l3, l4, l5] L2 St S := ev_br i151_54 rfl
theorem i151_57 : insAt 151 57 = some (.iconst 1, 1, (0, 0, 0, 0), 0) := rfl
theorem s151_57 {c : Nat → List AV → SS → Option Out} {l0 l1 l2 l3 l4 l5 : Option AV} {L2 : List (Nat × AV)} {St : List AV} {S : SS} : ev c 151 57 [l0, l1, l2, l3, l4, l5] L2 St S = ev c 151 58 [l0, l1, l2, l3, l4, l5] L2 (aI 1 :: St) S := ev_go i151_57 rfl
theorem i151_58 : insAt 151 58 = some (.goto 4, 3, (0, 0, 0, 0), 0) := rfl
theorem s151_58 {c : Nat → List AV → SS → Option Out} {l0 l1 l2 l3 l4 l5 : Option AV} {L2 : List (Nat × AV)} {St : List AV} {S : SS} : ev c 151 58 [l0, l1, l2, l3, l4, l5] L2 St S = ev c 151 62 [l0, l1, l2, l3, l4, l5] L2 St S := ev_go i151_58 rfl
theorem i151_61 : insAt 151 61 = some (.iconst 0, 1, (0, 0, 0, 0), 0) := rfl
theorem s151_61 {c : Nat → List AV → SS → Option Out} {l0 l1 l2 l3 l4 l5 : Option AV} {L2 : List (Nat × AV)} {St : List AV} {S : SS} : ev c 151 61 [l0, l1, l2, l3, l4, l5] L2 St S = ev c 151 62 [l0, l1, l2, l3, l4, l5] L2 (aI 0 :: St) S := ev_go i151_61 rfl
theorem i151_62 : insAt 151 62 = some (.istore 5, 2, (0, 0, 0, 0), 0) := rfl
theorem s151_62 {c : Nat → List AV → SS → Option Out} {l0 l1 l2 l3 l4 l5 : Option AV} {x : Int32} {L2 : List (Nat × AV)} {St : List AV} {S : SS} : ev c 151 62 [l0, l1, l2, l3, l4, l5] L2 (aI x :: St) S = ev c 151 64 [l0, l1, l2, l3, l4, some (aI x)] (kil L2 5) St S := ev_go i151_62 rfl
theorem i151_64 : insAt 151 64 = some (.aload_n 0, 1, (0, 0, 0, 0), 0) := rfl
theorem s151_64 {c : Nat → List AV → SS → Option Out} {l1 l2 l3 l4 l5 : Option AV} {o : OId} {L2 : List (Nat × AV)} {St : List AV} {S : SS} : ev c 151 64 [some (aR o), l1, l2, l3, l4, l5] L2 St S = ev c 151 65 [some (aR o), l1, l2, l3, l4, l5] L2 (aR o :: St) S := ev_go i151_64 rfl
theorem i151_65 : insAt 151 65 = some (.iload_n 3, 1, (0, 0, 0, 0), 0) := rfl
theorem s151_65 {c : Nat → List AV → SS → Option Out} {l0 l1 l2 l4 l5 : Option AV} {x : Int32} {L2 : List (Nat × AV)} {St : List AV} {S : SS} : ev c 151 65 [l0, l1, l2, some (aI x), l4, l5] L2 St S = ev c 151 66 [l0, l1, l2, some (aI x), l4, l5] L2 (aI x :: St) S := ev_go i151_65 rfl
theorem i151_66 : insAt 151 66 = some (.aload_n 1, 1, (0, 0, 0, 0), 0) := rfl
theorem s151_66 {c : Nat → List AV → SS → Option Out} {l0 l2 l3 l4 l5 : Option AV} {o : OId} {L2 : List (Nat × AV)} {St : List AV} {S : SS} : ev c 151 66 [l0, some (aR o), l2, l3, l4, l5] L2 St S = ev c 151 67 [l0, some (aR o), l2, l3, l4, l5] L2 (aR o :: St) S := ev_go i151_66 rfl
theorem i151_67 : insAt 151 67 = some (.iload 4, 2, (0, 0, 0, 0), 0) := rfl
theorem s151_67 {c : Nat → List AV → SS → Option Out} {l0 l1 l2 l3 l5 : Option AV} {x : Int32} {L2 : List (Nat × AV)} {St : List AV} {S : SS} : ev c 151 67 [l0, l1, l2, l3, some (aI x), l5] L2 St S = ev c 151 69 [l0, l1, l2, l3, some (aI x), l5] L2 (aI x :: St) S := ev_go i151_67 rfl
theorem i151_69 : insAt 151 69 = some (.iload_n 2, 1, (0, 0, 0, 0), 0) := rfl
theorem s151_69 {c : Nat → List AV → SS → Option Out} {l0 l1 l3 l4 l5 : Option AV} {x : Int32} {L2 : List (Nat × AV)} {St : List AV} {S : SS} : ev c 151 69 [l0, l1, some (aI x), l3, l4, l5] L2 St S = ev c 151 70 [l0, l1, some (aI x), l3, l4, l5] L2 (aI x :: St) S := ev_go i151_69 rfl
theorem i151_70 : insAt 151 70 = some (.invokevirtual 92, 3, (25, 2, 3, 4), 276) := rfl
theorem s151_70 {c : Nat → List AV → SS → Option Out} {l0 l1 l2 l3 l4 l5 : Option AV} {t0 t1 : AV} {a0 : Int32} {a1 : Int32} {j t : Nat} {L2 : List (Nat × AV)} {S : SS} : ev c 151 70 [l0, l1, l2, l3, l4, l5] L2 [aI a1, aI a0, aR (4, j, t), t0, t1] S = ck (c 25 [aR (4, j, t), aI a0, aI a1] S) (fun v S' => ev c 151 73 [l0, l1, l2, l3, l4, l5] L2 (v.toList ++ [t0, t1]) S') := ev_call i151_70 rfl
theorem i151_73 : insAt 151 73 = some (.iload 5, 2, (0, 0, 0, 0), 0) := rfl
theorem s151_73 {c : Nat → List AV → SS → Option Out} {l0 l1 l2 l3 l4 : Option AV} {x : Int32} {L2 : List (Nat × AV)} {St : List AV} {S : SS} : ev c 151 73 [l0, l1, l2, l3, l4, some (aI x)] L2 St S = ev c 151 75 [l0, l1, l2, l3, l4, some (aI x)] L2 (aI x :: St) S := ev_go i151_73 rfl
theorem i151_75 : insAt 151 75 = some (.invokevirtual 75, 3, (66, 3, 2, 8), 179) := rfl
theorem s151_75 {c : Nat → List AV → SS → Option Out} {l0 l1 l2 l3 l4 l5 : Option AV} {a0 : Int32} {a1 : Int32} {a2 : Int32} {j t : Nat} {L2 : List (Nat × AV)} {S : SS} : ev c 151 75 [l0, l1, l2, l3, l4, l5] L2 [aI a2, aI a1, aI a0, aR (8, j, t)] S = ck (c 66 [aR (8, j, t), aI a0, aI a1, aI a2] S) (fun v S' => ev c 151 78 [l0, l1, l2, l3, l4, l5] L2 (v.toList ++ []) S') := ev_call i151_75 rfl
theorem i151_78 : insAt 151 78 = some (.iinc 3 1, 3, (0, 0, 0, 0), 0) := rfl
theorem s151_78 {c : Nat → List AV → SS → Option Out} {l0 l1 l2 l4 l5 : Option AV} {x : Int32} {L2 : List (Nat × AV)} {St : List AV} {S : SS} : ev c 151 78 [l0, l1, l2, some (aI x), l4, l5] L2 St S = ev c 151 81 [l0, l1, l2, some (aI (x + 1)), l4, l5] (kil L2 3) St S := ev_go i151_78 rfl
theorem i151_81 : insAt 151 81 = some (.goto (-67), 3, (0, 0, 0, 0), 0) := rfl
theorem s151_81 {c : Nat → List AV → SS → Option Out} {l0 l1 l2 l3 l4 l5 : Option AV} {L2 : List (Nat × AV)} {St : List AV} {S : SS} : ev c 151 81 [l0, l1, l2, l3, l4, l5] L2 St S = ev c 151 14 [l0, l1, l2, l3, l4, l5] L2 St S := ev_go i151_81 rfl
theorem i151_84 : insAt 151 84 = some (.return_, 1, (0, 0, 0, 0), 0) := rfl
theorem s151_84 {c : Nat → List AV → SS → Option Out} {l0 l1 l2 l3 l4 l5 : Option AV} {L2 : List (Nat × AV)} {S : SS} : ev c 151 84 [l0, l1, l2, l3, l4, l5] L2 [] S = some (.inl none, S) := ev_end i151_84 rfl
theorem m151 {d : Nat} {o : OId} {a0 : OId} {a1 : Int32} {S : SS} : evm (d + 1) 151 [aR o, aR a0, aI a1] S = ev (evm d) 151 0 [some (aR o), some (aR a0), some (aI a1), none, none, none] [] [] S := evm_s (n := 6) rfl (Nat.le_of_ble_eq_true rfl) rfl rfl
/-! FrequencyOffice$Books.addComplaint(II)V -/
theorem i159_0 : insAt 159 0 = some (.aload_n 0, 1, (0, 0, 0, 0), 0) := rfl
theorem s159_0 {c : Nat → List AV → SS → Option Out} {l1 l2 l3 : Option AV} {o : OId} {L2 : List (Nat × AV)} {St : List AV} {S : SS} : ev c 159 0 [some (aR o), l1, l2, l3] L2 St S = ev c 159 1 [some (aR o), l1, l2, l3] L2 (aR o :: St) S := ev_go i159_0 rfl
theorem i159_1 : insAt 159 1 = some (.iload_n 1, 1, (0, 0, 0, 0), 0) := rfl
theorem s159_1 {c : Nat → List AV → SS → Option Out} {l0 l2 l3 : Option AV} {x : Int32} {L2 : List (Nat × AV)} {St : List AV} {S : SS} : ev c 159 1 [l0, some (aI x), l2, l3] L2 St S = ev c 159 2 [l0, some (aI x), l2, l3] L2 (aI x :: St) S := ev_go i159_1 rfl
theorem i159_2 : insAt 159 2 = some (.iload_n 2, 1, (0, 0, 0, 0), 0) := rfl
theorem s159_2 {c : Nat → List AV → SS → Option Out} {l0 l1 l3 : Option AV} {x : Int32} {L2 : List (Nat × AV)} {St : List AV} {S : SS} : ev c 159 2 [l0, l1, some (aI x), l3] L2 St S = ev c 159 3 [l0, l1, some (aI x), l3] L2 (aI x :: St) S := ev_go i159_2 rfl
theorem i159_3 : insAt 159 3 = some (.invokevirtual 95, 3, (29, 2, 2, 4), 95) := rfl
theorem s159_3 {c : Nat → List AV → SS → Option Out} {l0 l1 l2 l3 : Option AV} {a0 : Int32} {a1 : Int32} {j t : Nat} {L2 : List (Nat × AV)} {S : SS} : ev c 159 3 [l0, l1, l2, l3] L2 [aI a1, aI a0, aR (4, j, t)] S = ck (c 29 [aR (4, j, t), aI a0, aI a1] S) (fun v S' => ev c 159 6 [l0, l1, l2, l3] L2 (v.toList ++ []) S') := ev_call i159_3 rfl
theorem i159_6 : insAt 159 6 = some (.iconst 1, 1, (0, 0, 0, 0), 0) := rfl
theorem s159_6 {c : Nat → List AV → SS → Option Out} {l0 l1 l2 l3 : Option AV} {L2 : List (Nat × AV)} {St : List AV} {S : SS} : ev c 159 6 [l0, l1, l2, l3] L2 St S = ev c 159 7 [l0, l1, l2, l3] L2 (aI 1 :: St) S := ev_go i159_6 rfl
theorem i159_7 : insAt 159 7 = some (.iadd, 1, (0, 0, 0, 0), 0) := rfl
theorem s159_7 {c : Nat → List AV → SS → Option Out} {l0 l1 l2 l3 : Option AV} {x y : Int32} {L2 : List (Nat × AV)} {St : List AV} {S : SS} : ev c 159 7 [l0, l1, l2, l3] L2 (aI y :: aI x :: St) S = ev c 159 8 [l0, l1, l2, l3] L2 (aI (x + y) :: St) S := ev_go i159_7 rfl
theorem i159_8 : insAt 159 8 = some (.istore_n 3, 1, (0, 0, 0, 0), 0) := rfl
theorem s159_8 {c : Nat → List AV → SS → Option Out} {l0 l1 l2 l3 : Option AV} {x : Int32} {L2 : List (Nat × AV)} {St : List AV} {S : SS} : ev c 159 8 [l0, l1, l2, l3] L2 (aI x :: St) S = ev c 159 9 [l0, l1, l2, some (aI x)] (kil L2 3) St S := ev_go i159_8 rfl
theorem i159_9 : insAt 159 9 = some (.aload_n 0, 1, (0, 0, 0, 0), 0) := rfl
theorem s159_9 {c : Nat → List AV → SS → Option Out} {l1 l2 l3 : Option AV} {o : OId} {L2 : List (Nat × AV)} {St : List AV} {S : SS} : ev c 159 9 [some (aR o), l1, l2, l3] L2 St S = ev c 159 10 [some (aR o), l1, l2, l3] L2 (aR o :: St) S := ev_go i159_9 rfl
theorem i159_10 : insAt 159 10 = some (.getfield 47, 3, (4, 10, 0, 0), 33) := rfl
theorem s159_10 {c : Nat → List AV → SS → Option Out} {l0 l1 l2 l3 : Option AV} {j t : Nat} {L2 : List (Nat × AV)} {St : List AV} {S : SS} : ev c 159 10 [l0, l1, l2, l3] L2 (aR (4, j, t) :: St) S = ev c 159 13 [l0, l1, l2, l3] L2 (S.2.2.1 (4, j, t) 10 :: St) S := ev_go i159_10 rfl
theorem i159_13 : insAt 159 13 = some (.iload_n 1, 1, (0, 0, 0, 0), 0) := rfl
theorem s159_13 {c : Nat → List AV → SS → Option Out} {l0 l2 l3 : Option AV} {x : Int32} {L2 : List (Nat × AV)} {St : List AV} {S : SS} : ev c 159 13 [l0, some (aI x), l2, l3] L2 St S = ev c 159 14 [l0, some (aI x), l2, l3] L2 (aI x :: St) S := ev_go i159_13 rfl
theorem i159_14 : insAt 159 14 = some (.iload_n 2, 1, (0, 0, 0, 0), 0) := rfl
theorem s159_14 {c : Nat → List AV → SS → Option Out} {l0 l1 l3 : Option AV} {x : Int32} {L2 : List (Nat × AV)} {St : List AV} {S : SS} : ev c 159 14 [l0, l1, some (aI x), l3] L2 St S = ev c 159 15 [l0, l1, some (aI x), l3] L2 (aI x :: St) S := ev_go i159_14 rfl
theorem i159_15 : insAt 159 15 = some (.invokestatic 99, 3, (30, 2, 1, 0), 102) := rfl
theorem s159_15 {c : Nat → List AV → SS → Option Out} {l0 l1 l2 l3 : Option AV} {t0 : AV} {a0 : Int32} {a1 : Int32} {L2 : List (Nat × AV)} {S : SS} : ev c 159 15 [l0, l1, l2, l3] L2 [aI a1, aI a0, t0] S = ck (c 30 [aI a0, aI a1] S) (fun v S' => ev c 159 18 [l0, l1, l2, l3] L2 (v.toList ++ [t0]) S') := ev_call i159_15 rfl
theorem i159_18 : insAt 159 18 = some (.iload_n 3, 1, (0, 0, 0, 0), 0) := rfl
theorem s159_18 {c : Nat → List AV → SS → Option Out} {l0 l1 l2 : Option AV} {x : Int32} {L2 : List (Nat × AV)} {St : List AV} {S : SS} : ev c 159 18 [l0, l1, l2, some (aI x)] L2 St S = ev c 159 19 [l0, l1, l2, some (aI x)] L2 (aI x :: St) S := ev_go i159_18 rfl
theorem i159_19 : insAt 159 19 = some (.invokestatic 102, 3, (35, 3, 1, 0), 213) := rfl
theorem s159_19 {c : Nat → List AV → SS → Option Out} {l0 l1 l2 l3 : Option AV} {a0 : OId} {a1 : Int32} {a2 : Int32} {L2 : List (Nat × AV)} {S : SS} : ev c 159 19 [l0, l1, l2, l3] L2 [aI a2, aI a1, aR a0] S = ck (c 35 [aR a0, aI a1, aI a2] S) (fun v S' => ev c 159 22 [l0, l1, l2, l3] L2 (v.toList ++ []) S') := ev_call i159_19 rfl
theorem i159_22 : insAt 159 22 = some (.aload_n 0, 1, (0, 0, 0, 0), 0) := rfl
theorem s159_22 {c : Nat → List AV → SS → Option Out} {l1 l2 l3 : Option AV} {o : OId} {L2 : List (Nat × AV)} {St : List AV} {S : SS} : ev c 159 22 [some (aR o), l1, l2, l3] L2 St S = ev c 159 23 [some (aR o), l1, l2, l3] L2 (aR o :: St) S := ev_go i159_22 rfl
theorem i159_23 : insAt 159 23 = some (.getfield 47, 3, (4, 10, 0, 0), 33) := rfl
theorem s159_23 {c : Nat → List AV → SS → Option Out} {l0 l1 l2 l3 : Option AV} {j t : Nat} {L2 : List (Nat × AV)} {St : List AV} {S : SS} : ev c 159 23 [l0, l1, l2, l3] L2 (aR (4, j, t) :: St) S = ev c 159 26 [l0, l1, l2, l3] L2 (S.2.2.1 (4, j, t) 10 :: St) S := ev_go i159_23 rfl
theorem i159_26 : insAt 159 26 = some (.iload_n 2, 1, (0, 0, 0, 0), 0) := rfl
theorem s159_26 {c : Nat → List AV → SS → Option Out} {l0 l1 l3 : Option AV} {x : Int32} {L2 : List (Nat × AV)} {St : List AV} {S : SS} : ev c 159 26 [l0, l1, some (aI x), l3] L2 St S = ev c 159 27 [l0, l1, some (aI x), l3] L2 (aI x :: St) S := ev_go i159_26 rfl
theorem i159_27 : insAt 159 27 = some (.iload_n 1, 1, (0, 0, 0, 0), 0) := rfl
theorem s159_27 {c : Nat → List AV → SS → Option Out} {l0 l2 l3 : Option AV} {x : Int32} {L2 : List (Nat × AV)} {St : List AV} {S : SS} : ev c 159 27 [l0, some (aI x), l2, l3] L2 St S = ev c 159 28 [l0, some (aI x), l2, l3] L2 (aI x :: St) S := ev_go i159_27 rfl
theorem i159_28 : insAt 159 28 = some (.invokestatic 99, 3, (30, 2, 1, 0), 102) := rfl
theorem s159_28 {c : Nat → List AV → SS → Option Out} {l0 l1 l2 l3 : Option AV} {t0 : AV} {a0 : Int32} {a1 : Int32} {L2 : List (Nat × AV)} {S : SS} : ev c 159 28 [l0, l1, l2, l3] L2 [aI a1, aI a0, t0] S = ck (c 30 [aI a0, aI a1] S) (fun v S' => ev c 159 31 [l0, l1, l2, l3] L2 (v.toList ++ [t0]) S') := ev_call i159_28 rfl
theorem i159_31 : insAt 159 31 = some (.iload_n 3, 1, (0, 0, 0, 0), 0) := rfl
theorem s159_31 {c : Nat → List AV → SS → Option Out} {l0 l1 l2 : Option AV} {x : Int32} {L2 : List (Nat × AV)} {St : List AV} {S : SS} : ev c 159 31 [l0, l1, l2, some (aI x)] L2 St S = ev c 159 32 [l0, l1, l2, some (aI x)] L2 (aI x :: St) S := ev_go i159_31 rfl
theorem i159_32 : insAt 159 32 = some (.invokestatic 102, 3, (35, 3, 1, 0), 213) := rfl
theorem s159_32 {c : Nat → List AV → SS → Option Out} {l0 l1 l2 l3 : Option AV} {a0 : OId} {a1 : Int32} {a2 : Int32} {L2 : List (Nat × AV)} {S : SS} : ev c 159 32 [l0, l1, l2, l3] L2 [aI a2, aI a1, aR a0] S = ck (c 35 [aR a0, aI a1, aI a2] S) (fun v S' => ev c 159 35 [l0, l1, l2, l3] L2 (v.toList ++ []) S') := ev_call i159_32 rfl
theorem i159_35 : insAt 159 35 = some (.return_, 1, (0, 0, 0, 0), 0) := rfl
theorem s159_35 {c : Nat → List AV → SS → Option Out} {l0 l1 l2 l3 : Option AV} {L2 : List (Nat × AV)} {S : SS} : ev c 159 35 [l0, l1, l2, l3] L2 [] S = some (.inl none, S) := ev_end i159_35 rfl
theorem m159 {d : Nat} {o : OId} {a0 : Int32} {a1 : Int32} {S : SS} : evm (d + 1) 159 [aR o, aI a0, aI a1] S = ev (evm d) 159 0 [some (aR o), some (aI a0), some (aI a1), none] [] [] S := evm_s (n := 4) rfl (Nat.le_of_ble_eq_true rfl) rfl rfl
/-! FrequencyOffice$Search.serveComplaint(LFrequencyOffice$Books;II)V -/
theorem i160_0 : insAt 160 0 = some (.aload_n 0, 1, (0, 0, 0, 0), 0) := rfl
theorem s160_0 {c : Nat → List AV → SS → Option Out} {l1 l2 l3 l4 : Option AV} {o : OId} {L2 : List (Nat × AV)} {St : List AV} {S : SS} : ev c 160 0 [some (aR o), l1, l2, l3, l4] L2 St S = ev c 160 1 [some (aR o), l1, l2, l3, l4] L2 (aR o :: St) S := ev_go i160_0 rfl
theorem i160_1 : insAt 160 1 = some (.getfield 36, 3, (8, 0, 0, 0), 65) := rfl
theorem s160_1 {c : Nat → List AV → SS → Option Out} {l0 l1 l2 l3 l4 : Option AV} {j t : Nat} {L2 : List (Nat × AV)} {St : List AV} {S : SS} : ev c 160 1 [l0, l1, l2, l3, l4] L2 (aR (8, j, t) :: St) S = ev c 160 4 [l0, l1, l2, l3, l4] L2 (S.2.2.1 (8, j, t) 0 :: St) S := ev_go i160_1 rfl
theorem i160_4 : insAt 160 4 = some (.aload_n 1, 1, (0, 0, 0, 0), 0) := rfl
theorem s160_4 {c : Nat → List AV → SS → Option Out} {l0 l2 l3 l4 : Option AV} {o : OId} {L2 : List (Nat × AV)} {St : List AV} {S : SS} : ev c 160 4 [l0, some (aR o), l2, l3, l4] L2 St S = ev c 160 5 [l0, some (aR o), l2, l3, l4] L2 (aR o :: St) S := ev_go i160_4 rfl
theorem i160_5 : insAt 160 5 = some (.iload_n 3, 1, (0, 0, 0, 0), 0) := rfl
theorem s160_5 {c : Nat → List AV → SS → Option Out} {l0 l1 l2 l4 : Option AV} {x : Int32} {L2 : List (Nat × AV)} {St : List AV} {S : SS} : ev c 160 5 [l0, l1, l2, some (aI x), l4] L2 St S = ev c 160 6 [l0, l1, l2, some (aI x), l4] L2 (aI x :: St) S := ev_go i160_5 rfl
theorem i160_6 : insAt 160 6 = some (.invokevirtual 40, 3, (33, 2, 3, 6), 171) := rfl
theorem s160_6 {c : Nat → List AV → SS → Option Out} {l0 l1 l2 l3 l4 : Option AV} {a0 : OId} {a1 : Int32} {j t : Nat} {L2 : List (Nat × AV)} {S : SS} : ev c 160 6 [l0, l1, l2, l3, l4] L2 [aI a1, aR a0, aR (6, j, t)] S = ck (c 33 [aR (6, j, t), aR a0, aI a1] S) (fun v S' => ev c 160 9 [l0, l1, l2, l3, l4] L2 (v.toList ++ []) S') := ev_call i160_6 rfl
theorem i160_9 : insAt 160 9 = some (.aload_n 0, 1, (0, 0, 0, 0), 0) := rfl
theorem s160_9 {c : Nat → List AV → SS → Option Out} {l1 l2 l3 l4 : Option AV} {o : OId} {L2 : List (Nat × AV)} {St : List AV} {S : SS} : ev c 160 9 [some (aR o), l1, l2, l3, l4] L2 St S = ev c 160 10 [some (aR o), l1, l2, l3, l4] L2 (aR o :: St) S := ev_go i160_9 rfl
theorem i160_10 : insAt 160 10 = some (.aload_n 1, 1, (0, 0, 0, 0), 0) := rfl
theorem s160_10 {c : Nat → List AV → SS → Option Out} {l0 l2 l3 l4 : Option AV} {o : OId} {L2 : List (Nat × AV)} {St : List AV} {S : SS} : ev c 160 10 [l0, some (aR o), l2, l3, l4] L2 St S = ev c 160 11 [l0, some (aR o), l2, l3, l4] L2 (aR o :: St) S := ev_go i160_10 rfl
theorem i160_11 : insAt 160 11 = some (.iload_n 3, 1, (0, 0, 0, 0), 0) := rfl
theorem s160_11 {c : Nat → List AV → SS → Option Out} {l0 l1 l2 l4 : Option AV} {x : Int32} {L2 : List (Nat × AV)} {St : List AV} {S : SS} : ev c 160 11 [l0, l1, l2, some (aI x), l4] L2 St S = ev c 160 12 [l0, l1, l2, some (aI x), l4] L2 (aI x :: St) S := ev_go i160_11 rfl
theorem i160_12 : insAt 160 12 = some (.invokevirtual 79, 3, (151, 2, 2, 8), 274) := rfl
theorem s160_12 {c : Nat → List AV → SS → Option Out} {l0 l1 l2 l3 l4 : Option AV} {a0 : OId} {a1 : Int32} {j t : Nat} {L2 : List (Nat × AV)} {S : SS} : ev c 160 12 [l0, l1, l2, l3, l4] L2 [aI a1, aR a0, aR (8, j, t)] S = ck (c 151 [aR (8, j, t), aR a0, aI a1] S) (fun v S' => ev c 160 15 [l0, l1, l2, l3, l4] L2 (v.toList ++ []) S') := ev_call i160_12 rfl
theorem i160_15 : insAt 160 15 = some (.iconst 0, 1, (0, 0, 0, 0), 0) := rfl
theorem s160_15 {c : Nat → List AV → SS → Option Out} {l0 l1 l2 l3 l4 : Option AV} {L2 : List (Nat × AV)} {St : List AV} {S : SS} : ev c 160 15 [l0, l1, l2, l3, l4] L2 St S = ev c 160 16 [l0, l1, l2, l3, l4] L2 (aI 0 :: St) S := ev_go i160_15 rfl
theorem i160_16 : insAt 160 16 = some (.istore 4, 2, (0, 0, 0, 0), 0) := rfl
theorem s160_16 {c : Nat → List AV → SS → Option Out} {l0 l1 l2 l3 l4 : Option AV} {x : Int32} {L2 : List (Nat × AV)} {St : List AV} {S : SS} : ev c 160 16 [l0, l1, l2, l3, l4] L2 (aI x :: St) S = ev c 160 18 [l0, l1, l2, l3, some (aI x)] (kil L2 4) St S := ev_go i160_16 rfl
theorem i160_18 : insAt 160 18 = some (.iload 4, 2, (0, 0, 0, 0), 0) := rfl
theorem s160_18 {c : Nat → List AV → SS → Option Out} {l0 l1 l2 l3 : Option AV} {x : Int32} {L2 : List (Nat × AV)} {St : List AV} {S : SS} : ev c 160 18 [l0, l1, l2, l3, some (aI x)] L2 St S = ev c 160 20 [l0, l1, l2, l3, some (aI x)] L2 (aI x :: St) S := ev_go i160_18 rfl
theorem i160_20 : insAt 160 20 = some (.aload_n 0, 1, (0, 0, 0, 0), 0) := rfl
theorem s160_20 {c : Nat → List AV → SS → Option Out} {l1 l2 l3 l4 : Option AV} {o : OId} {L2 : List (Nat × AV)} {St : List AV} {S : SS} : ev c 160 20 [some (aR o), l1, l2, l3, l4] L2 St S = ev c 160 21 [some (aR o), l1, l2, l3, l4] L2 (aR o :: St) S := ev_go i160_20 rfl
theorem i160_21 : insAt 160 21 = some (.getfield 36, 3, (8, 0, 0, 0), 65) := rfl
theorem s160_21 {c : Nat → List AV → SS → Option Out} {l0 l1 l2 l3 l4 : Option AV} {j t : Nat} {L2 : List (Nat × AV)} {St : List AV} {S : SS} : ev c 160 21 [l0, l1, l2, l3, l4] L2 (aR (8, j, t) :: St) S = ev c 160 24 [l0, l1, l2, l3, l4] L2 (S.2.2.1 (8, j, t) 0 :: St) S := ev_go i160_21 rfl
theorem i160_24 : insAt 160 24 = some (.getfield 46, 3, (6, 0, 1, 0), 172) := rfl
theorem s160_24 {c : Nat → List AV → SS → Option Out} {l0 l1 l2 l3 l4 : Option AV} {j t : Nat} {L2 : List (Nat × AV)} {St : List AV} {S : SS} : ev c 160 24 [l0, l1, l2, l3, l4] L2 (aR (6, j, t) :: St) S = ev c 160 27 [l0, l1, l2, l3, l4] L2 (aI (S.1 (6, j, t) 0) :: St) S := ev_go i160_24 rfl
theorem i160_27 : insAt 160 27 = some (.if_icmp .ge 51, 3, (0, 0, 0, 0), 0) := rfl
theorem s160_27 {c : Nat → List AV → SS → Option Out} {l0 l1 l2 l3 l4 : Option AV} {x y : Int32} {L2 : List (Nat × AV)} {St : List AV} {S : SS} : ev c 160 27 [l0, l1, l2, l3, l4] L2 (aI y :: aI x :: St) S = if y ≤ x then ev c 160 78 [l0, l1, l2, l3, l4] L2 St S else ev c 160 30 [l0, l1, l2, l3, l4] L2 St S := ev_br i160_27 rfl
theorem i160_30 : insAt 160 30 = some (.aload_n 0, 1, (0, 0, 0, 0), 0) := rfl
theorem s160_30 {c : Nat → List AV → SS → Option Out} {l1 l2 l3 l4 : Option AV} {o : OId} {L2 : List (Nat × AV)} {St : List AV} {S : SS} : ev c 160 30 [some (aR o), l1, l2, l3, l4] L2 St S = ev c 160 31 [some (aR o), l1, l2, l3, l4] L2 (aR o :: St) S := ev_go i160_30 rfl
theorem i160_31 : insAt 160 31 = some (.getfield 36, 3, (8, 0, 0, 0), 65) := rfl
theorem s160_31 {c : Nat → List AV → SS → Option Out} {l0 l1 l2 l3 l4 : Option AV} {j t : Nat} {L2 : List (Nat × AV)} {St : List AV} {S : SS} : ev c 160 31 [l0, l1, l2, l3, l4] L2 (aR (8, j, t) :: St) S = ev c 160 34 [l0, l1, l2, l3, l4] L2 (S.2.2.1 (8, j, t) 0 :: St) S := ev_go i160_31 rfl
theorem i160_34 : insAt 160 34 = some (.getfield 82, 3, (6, 2, 1, 0), 198) := rfl
theorem s160_34 {c : Nat → List AV → SS → Option Out} {l0 l1 l2 l3 l4 : Option AV} {j t : Nat} {L2 : List (Nat × AV)} {St : List AV} {S : SS} : ev c 160 34 [l0, l1, l2, l3, l4] L2 (aR (6, j, t) :: St) S = ev c 160 37 [l0, l1, l2, l3, l4] L2 (S.2.2.1 (6, j, t) 2 :: St) S := ev_go i160_34 rfl
theorem i160_37 : insAt 160 37 = some (.iload 4, 2, (0, 0, 0, 0), 0) := rfl
theorem s160_37 {c : Nat → List AV → SS → Option Out} {l0 l1 l2 l3 : Option AV} {x : Int32} {L2 : List (Nat × AV)} {St : List AV} {S : SS} : ev c 160 37 [l0, l1, l2, l3, some (aI x)] L2 St S = ev c 160 39 [l0, l1, l2, l3, some (aI x)] L2 (aI x :: St) S := ev_go i160_37 rfl
theorem i160_39 : insAt 160 39 = some (.invokestatic 52, 3, (31, 2, 1, 0), 174) := rfl
theorem s160_39 {c : Nat → List AV → SS → Option Out} {l0 l1 l2 l3 l4 : Option AV} {a0 : OId} {a1 : Int32} {L2 : List (Nat × AV)} {S : SS} : ev c 160 39 [l0, l1, l2, l3, l4] L2 [aI a1, aR a0] S = ck (c 31 [aR a0, aI a1] S) (fun v S' => ev c 160 42 [l0, l1, l2, l3, l4] L2 (v.toList ++ []) S') := ev_call i160_39 rfl
theorem i160_42 : insAt 160 42 = some (.iload_n 2, 1, (0, 0, 0, 0), 0) := rfl
theorem s160_42 {c : Nat → List AV → SS → Option Out} {l0 l1 l3 l4 : Option AV} {x : Int32} {L2 : List (Nat × AV)} {St : List AV} {S : SS} : ev c 160 42 [l0, l1, some (aI x), l3, l4] L2 St S = ev c 160 43 [l0, l1, some (aI x), l3, l4] L2 (aI x :: St) S := ev_go i160_42 rfl
theorem i160_43 : insAt 160 43 = some (.if_icmp .ne 29, 3, (0, 0, 0, 0), 0) := rfl
theorem s160_43 {c : Nat → List AV → SS → Option Out} {l0 l1 l2 l3 l4 : Option AV} {x y : Int32} {L2 : List (Nat × AV)} {St : List AV} {S : SS} : ev c 160 43 [l0, l1, l2, l3, l4] L2 (aI y :: aI x :: St) S = if x = y then ev c 160 46 [l0, l1, l2, l3, l4] L2 St S else ev c 160 72 [l0, l1, l2, l3, l4] L2 St S := (ev_br i160_43 rfl).trans (ite_not _ _ _)
theorem i160_46 : insAt 160 46 = some (.aload_n 0, 1, (0, 0, 0, 0), 0) := rfl
theorem s160_46 {c : Nat → List AV → SS → Option Out} {l1 l2 l3 l4 : Option AV} {o : OId} {L2 : List (Nat × AV)} {St : List AV} {S : SS} : ev c 160 46 [some (aR o), l1, l2, l3, l4] L2 St S = ev c 160 47 [some (aR o), l1, l2, l3, l4] L2 (aR o :: St) S := ev_go i160_46 rfl
theorem i160_47 : insAt 160 47 = some (.iload 4, 2, (0, 0, 0, 0), 0) := rfl
theorem s160_47 {c : Nat → List AV → SS → Option Out} {l0 l1 l2 l3 : Option AV} {x : Int32} {L2 : List (Nat × AV)} {St : List AV} {S : SS} : ev c 160 47 [l0, l1, l2, l3, some (aI x)] L2 St S = ev c 160 49 [l0, l1, l2, l3, some (aI x)] L2 (aI x :: St) S := ev_go i160_47 rfl
theorem i160_49 : insAt 160 49 = some (.putfield 33, 3, (8, 6, 0, 0), 64) := rfl
theorem s160_49 {c : Nat → List AV → SS → Option Out} {l0 l1 l2 l3 l4 : Option AV} {j t : Nat} {x : Int32} {L2 : List (Nat × AV)} {St : List AV} {S : SS} : ev c 160 49 [l0, l1, l2, l3, l4] L2 (aI x :: aR (8, j, t) :: St) S = ev c 160 52 [l0, l1, l2, l3, l4] L2 St (setI S.1 (8, j, t) 6 x, S.2) := ev_go i160_49 rfl
theorem i160_52 : insAt 160 52 = some (.aload_n 0, 1, (0, 0, 0, 0), 0) := rfl
theorem s160_52 {c : Nat → List AV → SS → Option Out} {l1 l2 l3 l4 : Option AV} {o : OId} {L2 : List (Nat × AV)} {St : List AV} {S : SS} : ev c 160 52 [some (aR o), l1, l2, l3, l4] L2 St S = ev c 160 53 [some (aR o), l1, l2, l3, l4] L2 (aR o :: St) S := ev_go i160_52 rfl
theorem i160_53 : insAt 160 53 = some (.getfield 18, 3, (8, 2, 0, 0), 60) := rfl
theorem s160_53 {c : Nat → List AV → SS → Option Out} {l0 l1 l2 l3 l4 : Option AV} {j t : Nat} {L2 : List (Nat × AV)} {St : List AV} {S : SS} : ev c 160 53 [l0, l1, l2, l3, l4] L2 (aR (8, j, t) :: St) S = ev c 160 56 [l0, l1, l2, l3, l4] L2 (S.2.2.1 (8, j, t) 2 :: St) S := ev_go i160_53 rfl
theorem i160_56 : insAt 160 56 = some (.iload 4, 2, (0, 0, 0, 0), 0) := rfl
theorem s160_56 {c : Nat → List AV → SS → Option Out} {l0 l1 l2 l3 : Option AV} {x : Int32} {L2 : List (Nat × AV)} {St : List AV} {S : SS} : ev c 160 56 [l0, l1, l2, l3, some (aI x)] L2 St S = ev c 160 58 [l0, l1, l2, l3, some (aI x)] L2 (aI x :: St) S := ev_go i160_56 rfl
theorem i160_58 : insAt 160 58 = some (.aload_n 0, 1, (0, 0, 0, 0), 0) := rfl
theorem s160_58 {c : Nat → List AV → SS → Option Out} {l1 l2 l3 l4 : Option AV} {o : OId} {L2 : List (Nat × AV)} {St : List AV} {S : SS} : ev c 160 58 [some (aR o), l1, l2, l3, l4] L2 St S = ev c 160 59 [some (aR o), l1, l2, l3, l4] L2 (aR o :: St) S := ev_go i160_58 rfl
theorem i160_59 : insAt 160 59 = some (.getfield 18, 3, (8, 2, 0, 0), 60) := rfl
theorem s160_59 {c : Nat → List AV → SS → Option Out} {l0 l1 l2 l3 l4 : Option AV} {j t : Nat} {L2 : List (Nat × AV)} {St : List AV} {S : SS} : ev c 160 59 [l0, l1, l2, l3, l4] L2 (aR (8, j, t) :: St) S = ev c 160 62 [l0, l1, l2, l3, l4] L2 (S.2.2.1 (8, j, t) 2 :: St) S := ev_go i160_59 rfl
theorem i160_62 : insAt 160 62 = some (.iload 4, 2, (0, 0, 0, 0), 0) := rfl
theorem s160_62 {c : Nat → List AV → SS → Option Out} {l0 l1 l2 l3 : Option AV} {x : Int32} {L2 : List (Nat × AV)} {St : List AV} {S : SS} : ev c 160 62 [l0, l1, l2, l3, some (aI x)] L2 St S = ev c 160 64 [l0, l1, l2, l3, some (aI x)] L2 (aI x :: St) S := ev_go i160_62 rfl
theorem i160_64 : insAt 160 64 = some (.invokestatic 52, 3, (31, 2, 1, 0), 174) := rfl
theorem s160_64 {c : Nat → List AV → SS → Option Out} {l0 l1 l2 l3 l4 : Option AV} {t0 t1 : AV} {a0 : OId} {a1 : Int32} {L2 : List (Nat × AV)} {S : SS} : ev c 160 64 [l0, l1, l2, l3, l4] L2 [aI a1, aR a0, t0, t1] S = ck (c 31 [aR a0, aI a1] S) (fun v S' => ev c 160 67 [l0, l1, l2, l3, l4] L2 (v.toList ++ [t0, t1]) S') := ev_call i160_64 rfl
theorem i160_67 : insAt 160 67 = some (.iconst 1, 1, (0, 0, 0, 0), 0) := rfl
theorem s160_67 {c : Nat → List AV → SS → Option Out} {l0 l1 l2 l3 l4 : Option AV} {L2 : List (Nat × AV)} {St : List AV} {S : SS} : ev c 160 67 [l0, l1, l2, l3, l4] L2 St S = ev c 160 68 [l0, l1, l2, l3, l4] L2 (aI 1 :: St) S := ev_go i160_67 rfl
theorem i160_68 : insAt 160 68 = some (.iadd, 1, (0, 0, 0, 0), 0) := rfl
theorem s160_68 {c : Nat → List AV → SS → Option Out} {l0 l1 l2 l3 l4 : Option AV} {x y : Int32} {L2 : List (Nat × AV)} {St : List AV} {S : SS} : ev c 160 68 [l0, l1, l2, l3, l4] L2 (aI y :: aI x :: St) S = ev c 160 69 [l0, l1, l2, l3, l4] L2 (aI (x + y) :: St) S := ev_go i160_68 rfl
theorem i160_69 : insAt 160 69 = some (.invokestatic 85, 3, (35, 3, 1, 0), 180) := rfl
theorem s160_69 {c : Nat → List AV → SS → Option Out} {l0 l1 l2 l3 l4 : Option AV} {a0 : OId} {a1 : Int32} {a2 : Int32} {L2 : List (Nat × AV)} {S : SS} : ev c 160 69 [l0, l1, l2, l3, l4] L2 [aI a2, aI a1, aR a0] S = ck (c 35 [aR a0, aI a1, aI a2] S) (fun v S' => ev c 160 72 [l0, l1, l2, l3, l4] L2 (v.toList ++ []) S') := ev_call i160_69 rfl
theorem i160_72 : insAt 160 72 = some (.iinc 4 1, 3, (0, 0, 0, 0), 0) := rfl
theorem s160_72 {c : Nat → List AV → SS → Option Out} {l0 l1 l2 l3 : Option AV} {x : Int32} {L2 : List (Nat × AV)} {St : List AV} {S : SS} : ev c 160 72 [l0, l1, l2, l3, some (aI x)] L2 St S = ev c 160 75 [l0, l1, l2, l3, some (aI (x + 1))] (kil L2 4) St S := ev_go i160_72 rfl
theorem i160_75 : insAt 160 75 = some (.goto (-57), 3, (0, 0, 0, 0), 0) := rfl
theorem s160_75 {c : Nat → List AV → SS → Option Out} {l0 l1 l2 l3 l4 : Option AV} {L2 : List (Nat × AV)} {St : List AV} {S : SS} : ev c 160 75 [l0, l1, l2, l3, l4] L2 St S = ev c 160 18 [l0, l1, l2, l3, l4] L2 St S := ev_go i160_75 rfl
theorem i160_78 : insAt 160 78 = some (.return_, 1, (0, 0, 0, 0), 0) := rfl
theorem s160_78 {c : Nat → List AV → SS → Option Out} {l0 l1 l2 l3 l4 : Option AV} {L2 : List (Nat × AV)} {S : SS} : ev c 160 78 [l0, l1, l2, l3, l4] L2 [] S = some (.inl none, S) := ev_end i160_78 rfl
theorem m160 {d : Nat} {o : OId} {a0 : OId} {a1 : Int32} {a2 : Int32} {S : SS} : evm (d + 1) 160 [aR o, aR a0, aI a1, aI a2] S = ev (evm d) 160 0 [some (aR o), some (aR a0), some (aI a1), some (aI a2), none] [] [] S := evm_s (n := 5) rfl (Nat.le_of_ble_eq_true rfl) rfl rfl
/-! FrequencyOffice$History.giveBack(LFrequencyOffice$Books;)V -/
theorem i210_0 : insAt 210 0 = some (.aload_n 0, 1, (0, 0, 0, 0), 0) := rfl
theorem s210_0 {c : Nat → List AV → SS → Option Out} {l1 l2 : Option AV} {o : OId} {L2 : List (Nat × AV)} {St : List AV} {S : SS} : ev c 210 0 [some (aR o), l1, l2] L2 St S = ev c 210 1 [some (aR o), l1, l2] L2 (aR o :: St) S := ev_go i210_0 rfl
theorem i210_1 : insAt 210 1 = some (.aload_n 0, 1, (0, 0, 0, 0), 0) := rfl
theorem s210_1 {c : Nat → List AV → SS → Option Out} {l1 l2 : Option AV} {o : OId} {L2 : List (Nat × AV)} {St : List AV} {S : SS} : ev c 210 1 [some (aR o), l1, l2] L2 St S = ev c 210 2 [some (aR o), l1, l2] L2 (aR o :: St) S := ev_go i210_1 rfl
theorem i210_2 : insAt 210 2 = some (.getfield 17, 3, (5, 1, 0, 0), 47) := rfl
theorem s210_2 {c : Nat → List AV → SS → Option Out} {l0 l1 l2 : Option AV} {j t : Nat} {L2 : List (Nat × AV)} {St : List AV} {S : SS} : ev c 210 2 [l0, l1, l2] L2 (aR (5, j, t) :: St) S = ev c 210 5 [l0, l1, l2] L2 (aI (S.1 (5, j, t) 1) :: St) S := ev_go i210_2 rfl
theorem i210_5 : insAt 210 5 = some (.ifCond .gt 7, 3, (0, 0, 0, 0), 0) := rfl
theorem s210_5 {c : Nat → List AV → SS → Option Out} {l0 l1 l2 : Option AV} {x : Int32} {L2 : List (Nat × AV)} {St : List AV} {S : SS} : ev c 210 5 [l0, l1, l2] L2 (aI x :: St) S = if 0 < x then ev c 210 12 [l0, l1, l2] L2 St S else ev c 210 8 [l0, l1, l2] L2 St S := ev_br i210_5 rfl
theorem i210_8 : insAt 210 8 = some (.iconst 5, 1, (0, 0, 0, 0), 0) := rfl
theorem s210_8 {c : Nat → List AV → SS → Option Out} {l0 l1 l2 : Option AV} {L2 : List (Nat × AV)} {St : List AV} {S : SS} : ev c 210 8 [l0, l1, l2] L2 St S = ev c 210 9 [l0, l1, l2] L2 (aI 5 :: St) S := ev_go i210_8 rfl
theorem i210_9 : insAt 210 9 = some (.goto 9, 3, (0, 0, 0, 0), 0) := rfl
theorem s210_9 {c : Nat → List AV → SS → Option Out} {l0 l1 l2 : Option AV} {L2 : List (Nat × AV)} {St : List AV} {S : SS} : ev c 210 9 [l0, l1, l2] L2 St S = ev c 210 18 [l0, l1, l2] L2 St S := ev_go i210_9 rfl
theorem i210_12 : insAt 210 12 = some (.aload_n 0, 1, (0, 0, 0, 0), 0) := rfl
theorem s210_12 {c : Nat → List AV → SS → Option Out} {l1 l2 : Option AV} {o : OId} {L2 : List (Nat × AV)} {St : List AV} {S : SS} : ev c 210 12 [some (aR o), l1, l2] L2 St S = ev c 210 13 [some (aR o), l1, l2] L2 (aR o :: St) S := ev_go i210_12 rfl
theorem i210_13 : insAt 210 13 = some (.getfield 17, 3, (5, 1, 0, 0), 47) := rfl
theorem s210_13 {c : Nat → List AV → SS → Option Out} {l0 l1 l2 : Option AV} {j t : Nat} {L2 : List (Nat × AV)} {St : List AV} {S : SS} : ev c 210 13 [l0, l1, l2] L2 (aR (5, j, t) :: St) S = ev c 210 16 [l0, l1, l2] L2 (aI (S.1 (5, j, t) 1) :: St) S := ev_go i210_13 rfl
theorem i210_16 : insAt 210 16 = some (.iconst 1, 1, (0, 0, 0, 0), 0) := rfl
theorem s210_16 {c : Nat → List AV → SS → Option Out} {l0 l1 l2 : Option AV} {L2 : List (Nat × AV)} {St : List AV} {S : SS} : ev c 210 16 [l0, l1, l2] L2 St S = ev c 210 17 [l0, l1, l2] L2 (aI 1 :: St) S := ev_go i210_16 rfl
theorem i210_17 : insAt 210 17 = some (.isub, 1, (0, 0, 0, 0), 0) := rfl
theorem s210_17 {c : Nat → List AV → SS → Option Out} {l0 l1 l2 : Option AV} {x y : Int32} {L2 : List (Nat × AV)} {St : List AV} {S : SS} : ev c 210 17 [l0, l1, l2] L2 (aI y :: aI x :: St) S = ev c 210 18 [l0, l1, l2] L2 (aI (x - y) :: St) S := ev_go i210_17 rfl
theorem i210_18 : insAt 210 18 = some (.putfield 17, 3, (5, 1, 0, 0), 47) := rfl
theorem s210_18 {c : Nat → List AV → SS → Option Out} {l0 l1 l2 : Option AV} {j t : Nat} {x : Int32} {L2 : List (Nat × AV)} {St : List AV} {S : SS} : ev c 210 18 [l0, l1, l2] L2 (aI x :: aR (5, j, t) :: St) S = ev c 210 21 [l0, l1, l2] L2 St (setI S.1 (5, j, t) 1 x, S.2) := ev_go i210_18 rfl
theorem i210_21 : insAt 210 21 = some (.aload_n 0, 1, (0, 0, 0, 0), 0) := rfl
theorem s210_21 {c : Nat → List AV → SS → Option Out} {l1 l2 : Option AV} {o : OId} {L2 : List (Nat × AV)} {St : List AV} {S : SS} : ev c 210 21 [some (aR o), l1, l2] L2 St S = ev c 210 22 [some (aR o), l1, l2] L2 (aR o :: St) S := ev_go i210_21 rfl
theorem i210_22 : insAt 210 22 = some (.dup, 1, (0, 0, 0, 0), 0) := rfl
theorem s210_22 {c : Nat → List AV → SS → Option Out} {l0 l1 l2 : Option AV} {x : OId} {L2 : List (Nat × AV)} {St : List AV} {S : SS} : ev c 210 22 [l0, l1, l2] L2 (aR x :: St) S = ev c 210 23 [l0, l1, l2] L2 (aR x :: aR x :: St) S := ev_go i210_22 rfl
theorem i210_23 : insAt 210 23 = some (.getfield 21, 3, (5, 2, 0, 0), 48) := rfl
theorem s210_23 {c : Nat → List AV → SS → Option Out} {l0 l1 l2 : Option AV} {j t : Nat} {L2 : List (Nat × AV)} {St : List AV} {S : SS} : ev c 210 23 [l0, l1, l2] L2 (aR (5, j, t) :: St) S = ev c 210 26 [l0, l1, l2] L2 (aI (S.1 (5, j, t) 2) :: St) S := ev_go i210_23 rfl
theorem i210_26 : insAt 210 26 = some (.iconst 1, 1, (0, 0, 0, 0), 0) := rfl
theorem s210_26 {c : Nat → List AV → SS → Option Out} {l0 l1 l2 : Option AV} {L2 : List (Nat × AV)} {St : List AV} {S : SS} : ev c 210 26 [l0, l1, l2] L2 St S = ev c 210 27 [l0, l1, l2] L2 (aI 1 :: St) S := ev_go i210_26 rfl
theorem i210_27 : insAt 210 27 = some (.isub, 1, (0, 0, 0, 0), 0) := rfl
theorem s210_27 {c : Nat → List AV → SS → Option Out} {l0 l1 l2 : Option AV} {x y : Int32} {L2 : List (Nat × AV)} {St : List AV} {S : SS} : ev c 210 27 [l0, l1, l2] L2 (aI y :: aI x :: St) S = ev c 210 28 [l0, l1, l2] L2 (aI (x - y) :: St) S := ev_go i210_27 rfl
theorem i210_28 : insAt 210 28 = some (.putfield 21, 3, (5, 2, 0, 0), 48) := rfl
theorem s210_28 {c : Nat → List AV → SS → Option Out} {l0 l1 l2 : Option AV} {j t : Nat} {x : Int32} {L2 : List (Nat × AV)} {St : List AV} {S : SS} : ev c 210 28 [l0, l1, l2] L2 (aI x :: aR (5, j, t) :: St) S = ev c 210 31 [l0, l1, l2] L2 St (setI S.1 (5, j, t) 2 x, S.2) := ev_go i210_28 rfl
theorem i210_31 : insAt 210 31 = some (.aload_n 0, 1, (0, 0, 0, 0), 0) := rfl
theorem s210_31 {c : Nat → List AV → SS → Option Out} {l1 l2 : Option AV} {o : OId} {L2 : List (Nat × AV)} {St : List AV} {S : SS} : ev c 210 31 [some (aR o), l1, l2] L2 St S = ev c 210 32 [some (aR o), l1, l2] L2 (aR o :: St) S := ev_go i210_31 rfl
theorem i210_32 : insAt 210 32 = some (.aload_n 0, 1, (0, 0, 0, 0), 0) := rfl
theorem s210_32 {c : Nat → List AV → SS → Option Out} {l1 l2 : Option AV} {o : OId} {L2 : List (Nat × AV)} {St : List AV} {S : SS} : ev c 210 32 [some (aR o), l1, l2] L2 St S = ev c 210 33 [some (aR o), l1, l2] L2 (aR o :: St) S := ev_go i210_32 rfl
theorem i210_33 : insAt 210 33 = some (.getfield 17, 3, (5, 1, 0, 0), 47) := rfl
theorem s210_33 {c : Nat → List AV → SS → Option Out} {l0 l1 l2 : Option AV} {j t : Nat} {L2 : List (Nat × AV)} {St : List AV} {S : SS} : ev c 210 33 [l0, l1, l2] L2 (aR (5, j, t) :: St) S = ev c 210 36 [l0, l1, l2] L2 (aI (S.1 (5, j, t) 1) :: St) S := ev_go i210_33 rfl
theorem i210_36 : insAt 210 36 = some (.invokevirtual 25, 3, (60, 1, 2, 5), 159) := rfl
theorem s210_36 {c : Nat → List AV → SS → Option Out} {l0 l1 l2 : Option AV} {a0 : Int32} {j t : Nat} {L2 : List (Nat × AV)} {S : SS} : ev c 210 36 [l0, l1, l2] L2 [aI a0, aR (5, j, t)] S = ck (c 60 [aR (5, j, t), aI a0] S) (fun v S' => ev c 210 39 [l0, l1, l2] L2 (v.toList ++ []) S') := ev_call i210_36 rfl
theorem i210_39 : insAt 210 39 = some (.astore_n 2, 1, (0, 0, 0, 0), 0) := rfl
theorem s210_39 {c : Nat → List AV → SS → Option Out} {l0 l1 l2 : Option AV} {o : OId} {L2 : List (Nat × AV)} {St : List AV} {S : SS} : ev c 210 39 [l0, l1, l2] L2 (aR o :: St) S = ev c 210 40 [l0, l1, some (aR o)] (kil L2 2) St S := ev_go i210_39 rfl
theorem i210_40 : insAt 210 40 = some (.aload_n 2, 1, (0, 0, 0, 0), 0) := rfl
theorem s210_40 {c : Nat → List AV → SS → Option Out} {l0 l1 : Option AV} {o : OId} {L2 : List (Nat × AV)} {St : List AV} {S : SS} : ev c 210 40 [l0, l1, some (aR o)] L2 St S = ev c 210 41 [l0, l1, some (aR o)] L2 (aR o :: St) S := ev_go i210_40 rfl
theorem i210_41 : insAt 210 41 = some (.ifnull 8, 3, (0, 0, 0, 0), 0) := rfl
theorem s210_41 {c : Nat → List AV → SS → Option Out} {l0 l1 l2 : Option AV} {j t : Nat} {L2 : List (Nat × AV)} {St : List AV} {S : SS} : ev c 210 41 [l0, l1, l2] L2 (aR (4, j, t) :: St) S = ev c 210 44 [l0, l1, l2] L2 St S := ev_go i210_41 rfl
theorem s210_41N {c : Nat → List AV → SS → Option Out} {l0 l1 l2 : Option AV} {L2 : List (Nat × AV)} {St : List AV} {S : SS} : ev c 210 41 [l0, l1, l2] L2 (aN :: St) S = ev c 210 49 [l0, l1, l2] L2 St S := ev_go i210_41 rfl
theorem i210_44 : insAt 210 44 = some (.aload_n 1, 1, (0, 0, 0, 0), 0) := rfl
theorem s210_44 {c : Nat → List AV → SS → Option Out} {l0 l2 : Option AV} {o : OId} {L2 : List (Nat × AV)} {St : List AV} {S : SS} : ev c 210 44 [l0, some (aR o), l2] L2 St S = ev c 210 45 [l0, some (aR o), l2] L2 (aR o :: St) S := ev_go i210_44 rfl
theorem i210_45 : insAt 210 45 = some (.aload_n 2, 1, (0, 0, 0, 0), 0) := rfl
theorem s210_45 {c : Nat → List AV → SS → Option Out} {l0 l1 : Option AV} {o : OId} {L2 : List (Nat × AV)} {St : List AV} {S : SS} : ev c 210 45 [l0, l1, some (aR o)] L2 St S = ev c 210 46 [l0, l1, some (aR o)] L2 (aR o :: St) S := ev_go i210_45 rfl
theorem i210_46 : insAt 210 46 = some (.invokevirtual 29, 3, (53, 1, 3, 4), 160) := rfl
theorem s210_46 {c : Nat → List AV → SS → Option Out} {l0 l1 l2 : Option AV} {a0 : OId} {j t : Nat} {L2 : List (Nat × AV)} {S : SS} : ev c 210 46 [l0, l1, l2] L2 [aR a0, aR (4, j, t)] S = ck (c 53 [aR (4, j, t), aR a0] S) (fun v S' => ev c 210 49 [l0, l1, l2] L2 (v.toList ++ []) S') := ev_call i210_46 rfl
theorem i210_49 : insAt 210 49 = some (.return_, 1, (0, 0, 0, 0), 0) := rfl
theorem s210_49 {c : Nat → List AV → SS → Option Out} {l0 l1 l2 : Option AV} {L2 : List (Nat × AV)} {S : SS} : ev c 210 49 [l0, l1, l2] L2 [] S = some (.inl none, S) := ev_end i210_49 rfl
theorem m210 {d : Nat} {o : OId} {a0 : OId} {S : SS} : evm (d + 1) 210 [aR o, aR a0] S = ev (evm d) 210 0 [some (aR o), some (aR a0), none] [] [] S := evm_s (n := 3) rfl (Nat.le_of_ble_eq_true rfl) rfl rfl
/-! FrequencyOffice$History.forget()V -/
theorem i213_0 : insAt 213 0 = some (.aload_n 0, 1, (0, 0, 0, 0), 0) := rfl
theorem s213_0 {c : Nat → List AV → SS → Option Out} {o : OId} {L2 : List (Nat × AV)} {St : List AV} {S : SS} : ev c 213 0 [some (aR o)] L2 St S = ev c 213 1 [some (aR o)] L2 (aR o :: St) S := ev_go i213_0 rfl
theorem i213_1 : insAt 213 1 = some (.iconst 0, 1, (0, 0, 0, 0), 0) := rfl
theorem s213_1 {c : Nat → List AV → SS → Option Out} {l0 : Option AV} {L2 : List (Nat × AV)} {St : List AV} {S : SS} : ev c 213 1 [l0] L2 St S = ev c 213 2 [l0] L2 (aI 0 :: St) S := ev_go i213_1 rfl
theorem i213_2 : insAt 213 2 = some (.putfield 21, 3, (5, 2, 0, 0), 48) := rfl
theorem s213_2 {c : Nat → List AV → SS → Option Out} {l0 : Option AV} {j t : Nat} {x : Int32} {L2 : List (Nat × AV)} {St : List AV} {S : SS} : ev c 213 2 [l0] L2 (aI x :: aR (5, j, t) :: St) S = ev c 213 5 [l0] L2 St (setI S.1 (5, j, t) 2 x, S.2) := ev_go i213_2 rfl
theorem i213_5 : insAt 213 5 = some (.return_, 1, (0, 0, 0, 0), 0) := rfl
theorem s213_5 {c : Nat → List AV → SS → Option Out} {l0 : Option AV} {L2 : List (Nat × AV)} {S : SS} : ev c 213 5 [l0] L2 [] S = some (.inl none, S) := ev_end i213_5 rfl
theorem m213 {d : Nat} {o : OId} {S : SS} : evm (d + 1) 213 [aR o] S = ev (evm d) 213 0 [some (aR o)] [] [] S := evm_s (n := 1) rfl (Nat.le_of_ble_eq_true rfl) rfl rfl
