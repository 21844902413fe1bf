/-! FrequencyOfficeModel.<init>()V -/
theorem i214_0 : insAt 214 0 = some (.aload_n 0, 1, (0, 0, 0, 0), 0) := rfl
theorem s214_0 {c : Nat → List AV → SS → Option Out} {o : OId} {L2 : List (Nat × AV)} {St : List AV} {S : SS} : ev c 214 0 [some (aR o)] L2 St S = ev c 214 1 [some (aR o)] L2 (aR o :: St) S := ev_go i214_0 rfl
theorem i214_1 : insAt 214 1 = some (.invokespecial 1, 3, (0, 0, 20, 0), 363) := rfl
theorem s214_1 {c : Nat → List AV → SS → Option Out} {l0 : Option AV} {j t : Nat} {L2 : List (Nat × AV)} {S : SS} : ev c 214 1 [l0] L2 [aR (12, j, t)] S = ev c 214 4 [l0] L2 [] S := ev_go i214_1 rfl
theorem i214_4 : insAt 214 4 = some (.aload_n 0, 1, (0, 0, 0, 0), 0) := rfl
theorem s214_4 {c : Nat → List AV → SS → Option Out} {o : OId} {L2 : List (Nat × AV)} {St : List AV} {S : SS} : ev c 214 4 [some (aR o)] L2 St S = ev c 214 5 [some (aR o)] L2 (aR o :: St) S := ev_go i214_4 rfl
theorem i214_5 : insAt 214 5 = some (.bipush 106, 2, (0, 0, 0, 0), 0) := rfl
theorem s214_5 {c : Nat → List AV → SS → Option Out} {l0 : Option AV} {L2 : List (Nat × AV)} {St : List AV} {S : SS} : ev c 214 5 [l0] L2 St S = ev c 214 7 [l0] L2 (aI 106 :: St) S := ev_go i214_5 rfl
theorem i214_7 : insAt 214 7 = some (.newarray .int, 2, (0, 0, 0, 0), 0) := rfl
theorem i214_9 : insAt 214 9 = some (.putfield 7, 3, (12, 0, 0, 0), 364) := rfl
theorem s214_9 {c : Nat → List AV → SS → Option Out} {l0 : Option AV} {j t : Nat} {p : OId} {L2 : List (Nat × AV)} {St : List AV} {S : SS} : ev c 214 9 [l0] L2 (aR p :: aR (12, j, t) :: St) S = ev c 214 12 [l0] L2 St (S.1, S.2.1, setV S.2.2.1 (12, j, t) 0 (aR p), S.2.2.2) := ev_go i214_9 rfl
theorem i214_12 : insAt 214 12 = some (.aload_n 0, 1, (0, 0, 0, 0), 0) := rfl
theorem s214_12 {c : Nat → List AV → SS → Option Out} {o : OId} {L2 : List (Nat × AV)} {St : List AV} {S : SS} : ev c 214 12 [some (aR o)] L2 St S = ev c 214 13 [some (aR o)] L2 (aR o :: St) S := ev_go i214_12 rfl
theorem i214_13 : insAt 214 13 = some (.bipush 106, 2, (0, 0, 0, 0), 0) := rfl
theorem s214_13 {c : Nat → List AV → SS → Option Out} {l0 : Option AV} {L2 : List (Nat × AV)} {St : List AV} {S : SS} : ev c 214 13 [l0] L2 St S = ev c 214 15 [l0] L2 (aI 106 :: St) S := ev_go i214_13 rfl
theorem i214_15 : insAt 214 15 = some (.newarray .int, 2, (0, 0, 0, 0), 0) := rfl
theorem i214_17 : insAt 214 17 = some (.putfield 13, 3, (12, 1, 0, 0), 365) := rfl
theorem s214_17 {c : Nat → List AV → SS → Option Out} {l0 : Option AV} {j t : Nat} {p : OId} {L2 : List (Nat × AV)} {St : List AV} {S : SS} : ev c 214 17 [l0] L2 (aR p :: aR (12, j, t) :: St) S = ev c 214 20 [l0] L2 St (S.1, S.2.1, setV S.2.2.1 (12, j, t) 1 (aR p), S.2.2.2) := ev_go i214_17 rfl
theorem i214_20 : insAt 214 20 = some (.aload_n 0, 1, (0, 0, 0, 0), 0) := rfl
theorem s214_20 {c : Nat → List AV → SS → Option Out} {o : OId} {L2 : List (Nat × AV)} {St : List AV} {S : SS} : ev c 214 20 [some (aR o)] L2 St S = ev c 214 21 [some (aR o)] L2 (aR o :: St) S := ev_go i214_20 rfl
theorem i214_21 : insAt 214 21 = some (.sipush 636, 3, (0, 0, 0, 0), 0) := rfl
theorem s214_21 {c : Nat → List AV → SS → Option Out} {l0 : Option AV} {L2 : List (Nat × AV)} {St : List AV} {S : SS} : ev c 214 21 [l0] L2 St S = ev c 214 24 [l0] L2 (aI 636 :: St) S := ev_go i214_21 rfl
theorem i214_24 : insAt 214 24 = some (.newarray .int, 2, (0, 0, 0, 0), 0) := rfl
theorem i214_26 : insAt 214 26 = some (.putfield 16, 3, (12, 2, 0, 0), 366) := rfl
theorem s214_26 {c : Nat → List AV → SS → Option Out} {l0 : Option AV} {j t : Nat} {p : OId} {L2 : List (Nat × AV)} {St : List AV} {S : SS} : ev c 214 26 [l0] L2 (aR p :: aR (12, j, t) :: St) S = ev c 214 29 [l0] L2 St (S.1, S.2.1, setV S.2.2.1 (12, j, t) 2 (aR p), S.2.2.2) := ev_go i214_26 rfl
theorem i214_29 : insAt 214 29 = some (.aload_n 0, 1, (0, 0, 0, 0), 0) := rfl
theorem s214_29 {c : Nat → List AV → SS → Option Out} {o : OId} {L2 : List (Nat × AV)} {St : List AV} {S : SS} : ev c 214 29 [some (aR o)] L2 St S = ev c 214 30 [some (aR o)] L2 (aR o :: St) S := ev_go i214_29 rfl
theorem i214_30 : insAt 214 30 = some (.bipush 106, 2, (0, 0, 0, 0), 0) := rfl
theorem s214_30 {c : Nat → List AV → SS → Option Out} {l0 : Option AV} {L2 : List (Nat × AV)} {St : List AV} {S : SS} : ev c 214 30 [l0] L2 St S = ev c 214 32 [l0] L2 (aI 106 :: St) S := ev_go i214_30 rfl
theorem i214_32 : insAt 214 32 = some (.newarray .int, 2, (0, 0, 0, 0), 0) := rfl
theorem i214_34 : insAt 214 34 = some (.putfield 19, 3, (12, 3, 0, 0), 367) := rfl
theorem s214_34 {c : Nat → List AV → SS → Option Out} {l0 : Option AV} {j t : Nat} {p : OId} {L2 : List (Nat × AV)} {St : List AV} {S : SS} : ev c 214 34 [l0] L2 (aR p :: aR (12, j, t) :: St) S = ev c 214 37 [l0] L2 St (S.1, S.2.1, setV S.2.2.1 (12, j, t) 3 (aR p), S.2.2.2) := ev_go i214_34 rfl
theorem i214_37 : insAt 214 37 = some (.aload_n 0, 1, (0, 0, 0, 0), 0) := rfl
theorem s214_37 {c : Nat → List AV → SS → Option Out} {o : OId} {L2 : List (Nat × AV)} {St : List AV} {S : SS} : ev c 214 37 [some (aR o)] L2 St S = ev c 214 38 [some (aR o)] L2 (aR o :: St) S := ev_go i214_37 rfl
theorem i214_38 : insAt 214 38 = some (.iconst 2, 1, (0, 0, 0, 0), 0) := rfl
theorem s214_38 {c : Nat → List AV → SS → Option Out} {l0 : Option AV} {L2 : List (Nat × AV)} {St : List AV} {S : SS} : ev c 214 38 [l0] L2 St S = ev c 214 39 [l0] L2 (aI 2 :: St) S := ev_go i214_38 rfl
theorem i214_39 : insAt 214 39 = some (.newarray .int, 2, (0, 0, 0, 0), 0) := rfl
theorem i214_41 : insAt 214 41 = some (.putfield 22, 3, (12, 4, 0, 0), 368) := rfl
theorem s214_41 {c : Nat → List AV → SS → Option Out} {l0 : Option AV} {j t : Nat} {p : OId} {L2 : List (Nat × AV)} {St : List AV} {S : SS} : ev c 214 41 [l0] L2 (aR p :: aR (12, j, t) :: St) S = ev c 214 44 [l0] L2 St (S.1, S.2.1, setV S.2.2.1 (12, j, t) 4 (aR p), S.2.2.2) := ev_go i214_41 rfl
theorem i214_44 : insAt 214 44 = some (.aload_n 0, 1, (0, 0, 0, 0), 0) := rfl
theorem s214_44 {c : Nat → List AV → SS → Option Out} {o : OId} {L2 : List (Nat × AV)} {St : List AV} {S : SS} : ev c 214 44 [some (aR o)] L2 St S = ev c 214 45 [some (aR o)] L2 (aR o :: St) S := ev_go i214_44 rfl
theorem i214_45 : insAt 214 45 = some (.iconst 2, 1, (0, 0, 0, 0), 0) := rfl
theorem s214_45 {c : Nat → List AV → SS → Option Out} {l0 : Option AV} {L2 : List (Nat × AV)} {St : List AV} {S : SS} : ev c 214 45 [l0] L2 St S = ev c 214 46 [l0] L2 (aI 2 :: St) S := ev_go i214_45 rfl
theorem i214_46 : insAt 214 46 = some (.newarray .int, 2, (0, 0, 0, 0), 0) := rfl
theorem i214_48 : insAt 214 48 = some (.putfield 25, 3, (12, 5, 0, 0), 369) := rfl
theorem s214_48 {c : Nat → List AV → SS → Option Out} {l0 : Option AV} {j t : Nat} {p : OId} {L2 : List (Nat × AV)} {St : List AV} {S : SS} : ev c 214 48 [l0] L2 (aR p :: aR (12, j, t) :: St) S = ev c 214 51 [l0] L2 St (S.1, S.2.1, setV S.2.2.1 (12, j, t) 5 (aR p), S.2.2.2) := ev_go i214_48 rfl
theorem i214_51 : insAt 214 51 = some (.aload_n 0, 1, (0, 0, 0, 0), 0) := rfl
theorem s214_51 {c : Nat → List AV → SS → Option Out} {o : OId} {L2 : List (Nat × AV)} {St : List AV} {S : SS} : ev c 214 51 [some (aR o)] L2 St S = ev c 214 52 [some (aR o)] L2 (aR o :: St) S := ev_go i214_51 rfl
theorem i214_52 : insAt 214 52 = some (.bipush 7, 2, (0, 0, 0, 0), 0) := rfl
theorem s214_52 {c : Nat → List AV → SS → Option Out} {l0 : Option AV} {L2 : List (Nat × AV)} {St : List AV} {S : SS} : ev c 214 52 [l0] L2 St S = ev c 214 54 [l0] L2 (aI 7 :: St) S := ev_go i214_52 rfl
theorem i214_54 : insAt 214 54 = some (.newarray .int, 2, (0, 0, 0, 0), 0) := rfl
theorem i214_56 : insAt 214 56 = some (.putfield 28, 3, (12, 6, 0, 0), 370) := rfl
theorem s214_56 {c : Nat → List AV → SS → Option Out} {l0 : Option AV} {j t : Nat} {p : OId} {L2 : List (Nat × AV)} {St : List AV} {S : SS} : ev c 214 56 [l0] L2 (aR p :: aR (12, j, t) :: St) S = ev c 214 59 [l0] L2 St (S.1, S.2.1, setV S.2.2.1 (12, j, t) 6 (aR p), S.2.2.2) := ev_go i214_56 rfl
theorem i214_59 : insAt 214 59 = some (.aload_n 0, 1, (0, 0, 0, 0), 0) := rfl
theorem s214_59 {c : Nat → List AV → SS → Option Out} {o : OId} {L2 : List (Nat × AV)} {St : List AV} {S : SS} : ev c 214 59 [some (aR o)] L2 St S = ev c 214 60 [some (aR o)] L2 (aR o :: St) S := ev_go i214_59 rfl
theorem i214_60 : insAt 214 60 = some (.iconst 0, 1, (0, 0, 0, 0), 0) := rfl
theorem s214_60 {c : Nat → List AV → SS → Option Out} {l0 : Option AV} {L2 : List (Nat × AV)} {St : List AV} {S : SS} : ev c 214 60 [l0] L2 St S = ev c 214 61 [l0] L2 (aI 0 :: St) S := ev_go i214_60 rfl
theorem i214_61 : insAt 214 61 = some (.putfield 31, 3, (12, 7, 0, 0), 371) := rfl
theorem s214_61 {c : Nat → List AV → SS → Option Out} {l0 : Option AV} {j t : Nat} {x : Int32} {L2 : List (Nat × AV)} {St : List AV} {S : SS} : ev c 214 61 [l0] L2 (aI x :: aR (12, j, t) :: St) S = ev c 214 64 [l0] L2 St (setI S.1 (12, j, t) 7 x, S.2) := ev_go i214_61 rfl
theorem i214_64 : insAt 214 64 = some (.aload_n 0, 1, (0, 0, 0, 0), 0) := rfl
theorem s214_64 {c : Nat → List AV → SS → Option Out} {o : OId} {L2 : List (Nat × AV)} {St : List AV} {S : SS} : ev c 214 64 [some (aR o)] L2 St S = ev c 214 65 [some (aR o)] L2 (aR o :: St) S := ev_go i214_64 rfl
theorem i214_65 : insAt 214 65 = some (.iconst 0, 1, (0, 0, 0, 0), 0) := rfl
theorem s214_65 {c : Nat → List AV → SS → Option Out} {l0 : Option AV} {L2 : List (Nat × AV)} {St : List AV} {S : SS} : ev c 214 65 [l0] L2 St S = ev c 214 66 [l0] L2 (aI 0 :: St) S := ev_go i214_65 rfl
theorem i214_66 : insAt 214 66 = some (.putfield 35, 3, (12, 8, 0, 0), 372) := rfl
theorem s214_66 {c : Nat → List AV → SS → Option Out} {l0 : Option AV} {j t : Nat} {x : Int32} {L2 : List (Nat × AV)} {St : List AV} {S : SS} : ev c 214 66 [l0] L2 (aI x :: aR (12, j, t) :: St) S = ev c 214 69 [l0] L2 St (setI S.1 (12, j, t) 8 x, S.2) := ev_go i214_66 rfl
theorem i214_69 : insAt 214 69 = some (.aload_n 0, 1, (0, 0, 0, 0), 0) := rfl
theorem s214_69 {c : Nat → List AV → SS → Option Out} {o : OId} {L2 : List (Nat × AV)} {St : List AV} {S : SS} : ev c 214 69 [some (aR o)] L2 St S = ev c 214 70 [some (aR o)] L2 (aR o :: St) S := ev_go i214_69 rfl
theorem i214_70 : insAt 214 70 = some (.iconst 0, 1, (0, 0, 0, 0), 0) := rfl
theorem s214_70 {c : Nat → List AV → SS → Option Out} {l0 : Option AV} {L2 : List (Nat × AV)} {St : List AV} {S : SS} : ev c 214 70 [l0] L2 St S = ev c 214 71 [l0] L2 (aI 0 :: St) S := ev_go i214_70 rfl
theorem i214_71 : insAt 214 71 = some (.putfield 38, 3, (12, 9, 0, 0), 373) := rfl
theorem s214_71 {c : Nat → List AV → SS → Option Out} {l0 : Option AV} {j t : Nat} {x : Int32} {L2 : List (Nat × AV)} {St : List AV} {S : SS} : ev c 214 71 [l0] L2 (aI x :: aR (12, j, t) :: St) S = ev c 214 74 [l0] L2 St (setI S.1 (12, j, t) 9 x, S.2) := ev_go i214_71 rfl
theorem i214_74 : insAt 214 74 = some (.aload_n 0, 1, (0, 0, 0, 0), 0) := rfl
theorem s214_74 {c : Nat → List AV → SS → Option Out} {o : OId} {L2 : List (Nat × AV)} {St : List AV} {S : SS} : ev c 214 74 [some (aR o)] L2 St S = ev c 214 75 [some (aR o)] L2 (aR o :: St) S := ev_go i214_74 rfl
theorem i214_75 : insAt 214 75 = some (.iconst 0, 1, (0, 0, 0, 0), 0) := rfl
theorem s214_75 {c : Nat → List AV → SS → Option Out} {l0 : Option AV} {L2 : List (Nat × AV)} {St : List AV} {S : SS} : ev c 214 75 [l0] L2 St S = ev c 214 76 [l0] L2 (aI 0 :: St) S := ev_go i214_75 rfl
theorem i214_76 : insAt 214 76 = some (.putfield 41, 3, (12, 10, 0, 0), 374) := rfl
theorem s214_76 {c : Nat → List AV → SS → Option Out} {l0 : Option AV} {j t : Nat} {x : Int32} {L2 : List (Nat × AV)} {St : List AV} {S : SS} : ev c 214 76 [l0] L2 (aI x :: aR (12, j, t) :: St) S = ev c 214 79 [l0] L2 St (setI S.1 (12, j, t) 10 x, S.2) := ev_go i214_76 rfl
theorem i214_79 : insAt 214 79 = some (.aload_n 0, 1, (0, 0, 0, 0), 0) := rfl
theorem s214_79 {c : Nat → List AV → SS → Option Out} {o : OId} {L2 : List (Nat × AV)} {St : List AV} {S : SS} : ev c 214 79 [some (aR o)] L2 St S = ev c 214 80 [some (aR o)] L2 (aR o :: St) S := ev_go i214_79 rfl
theorem i214_80 : insAt 214 80 = some (.iconst 0, 1, (0, 0, 0, 0), 0) := rfl
theorem s214_80 {c : Nat → List AV → SS → Option Out} {l0 : Option AV} {L2 : List (Nat × AV)} {St : List AV} {S : SS} : ev c 214 80 [l0] L2 St S = ev c 214 81 [l0] L2 (aI 0 :: St) S := ev_go i214_80 rfl
theorem i214_81 : insAt 214 81 = some (.putfield 44, 3, (12, 11, 0, 0), 375) := rfl
theorem s214_81 {c : Nat → List AV → SS → Option Out} {l0 : Option AV} {j t : Nat} {x : Int32} {L2 : List (Nat × AV)} {St : List AV} {S : SS} : ev c 214 81 [l0] L2 (aI x :: aR (12, j, t) :: St) S = ev c 214 84 [l0] L2 St (setI S.1 (12, j, t) 11 x, S.2) := ev_go i214_81 rfl
theorem i214_84 : insAt 214 84 = some (.aload_n 0, 1, (0, 0, 0, 0), 0) := rfl
theorem s214_84 {c : Nat → List AV → SS → Option Out} {o : OId} {L2 : List (Nat × AV)} {St : List AV} {S : SS} : ev c 214 84 [some (aR o)] L2 St S = ev c 214 85 [some (aR o)] L2 (aR o :: St) S := ev_go i214_84 rfl
theorem i214_85 : insAt 214 85 = some (.iconst 0, 1, (0, 0, 0, 0), 0) := rfl
theorem s214_85 {c : Nat → List AV → SS → Option Out} {l0 : Option AV} {L2 : List (Nat × AV)} {St : List AV} {S : SS} : ev c 214 85 [l0] L2 St S = ev c 214 86 [l0] L2 (aI 0 :: St) S := ev_go i214_85 rfl
theorem i214_86 : insAt 214 86 = some (.putfield 47, 3, (12, 12, 0, 0), 376) := rfl
theorem s214_86 {c : Nat → List AV → SS → Option Out} {l0 : Option AV} {j t : Nat} {x : Int32} {L2 : List (Nat × AV)} {St : List AV} {S : SS} : ev c 214 86 [l0] L2 (aI x :: aR (12, j, t) :: St) S = ev c 214 89 [l0] L2 St (setI S.1 (12, j, t) 12 x, S.2) := ev_go i214_86 rfl
theorem i214_89 : insAt 214 89 = some (.aload_n 0, 1, (0, 0, 0, 0), 0) := rfl
theorem s214_89 {c : Nat → List AV → SS → Option Out} {o : OId} {L2 : List (Nat × AV)} {St : List AV} {S : SS} : ev c 214 89 [some (aR o)] L2 St S = ev c 214 90 [some (aR o)] L2 (aR o :: St) S := ev_go i214_89 rfl
theorem i214_90 : insAt 214 90 = some (.iconst 0, 1, (0, 0, 0, 0), 0) := rfl
theorem s214_90 {c : Nat → List AV → SS → Option Out} {l0 : Option AV} {L2 : List (Nat × AV)} {St : List AV} {S : SS} : ev c 214 90 [l0] L2 St S = ev c 214 91 [l0] L2 (aI 0 :: St) S := ev_go i214_90 rfl
theorem i214_91 : insAt 214 91 = some (.putfield 50, 3, (12, 13, 0, 0), 377) := rfl
theorem s214_91 {c : Nat → List AV → SS → Option Out} {l0 : Option AV} {j t : Nat} {x : Int32} {L2 : List (Nat × AV)} {St : List AV} {S : SS} : ev c 214 91 [l0] L2 (aI x :: aR (12, j, t) :: St) S = ev c 214 94 [l0] L2 St (setI S.1 (12, j, t) 13 x, S.2) := ev_go i214_91 rfl
theorem i214_94 : insAt 214 94 = some (.aload_n 0, 1, (0, 0, 0, 0), 0) := rfl
theorem s214_94 {c : Nat → List AV → SS → Option Out} {o : OId} {L2 : List (Nat × AV)} {St : List AV} {S : SS} : ev c 214 94 [some (aR o)] L2 St S = ev c 214 95 [some (aR o)] L2 (aR o :: St) S := ev_go i214_94 rfl
theorem i214_95 : insAt 214 95 = some (.iconst 0, 1, (0, 0, 0, 0), 0) := rfl
theorem s214_95 {c : Nat → List AV → SS → Option Out} {l0 : Option AV} {L2 : List (Nat × AV)} {St : List AV} {S : SS} : ev c 214 95 [l0] L2 St S = ev c 214 96 [l0] L2 (aI 0 :: St) S := ev_go i214_95 rfl
theorem i214_96 : insAt 214 96 = some (.putfield 53, 3, (12, 14, 0, 0), 378) := rfl
theorem s214_96 {c : Nat → List AV → SS → Option Out} {l0 : Option AV} {j t : Nat} {x : Int32} {L2 : List (Nat × AV)} {St : List AV} {S : SS} : ev c 214 96 [l0] L2 (aI x :: aR (12, j, t) :: St) S = ev c 214 99 [l0] L2 St (setI S.1 (12, j, t) 14 x, S.2) := ev_go i214_96 rfl
theorem i214_99 : insAt 214 99 = some (.aload_n 0, 1, (0, 0, 0, 0), 0) := rfl
theorem s214_99 {c : Nat → List AV → SS → Option Out} {o : OId} {L2 : List (Nat × AV)} {St : List AV} {S : SS} : ev c 214 99 [some (aR o)] L2 St S = ev c 214 100 [some (aR o)] L2 (aR o :: St) S := ev_go i214_99 rfl
theorem i214_100 : insAt 214 100 = some (.iconst 0, 1, (0, 0, 0, 0), 0) := rfl
theorem s214_100 {c : Nat → List AV → SS → Option Out} {l0 : Option AV} {L2 : List (Nat × AV)} {St : List AV} {S : SS} : ev c 214 100 [l0] L2 St S = ev c 214 101 [l0] L2 (aI 0 :: St) S := ev_go i214_100 rfl
theorem i214_101 : insAt 214 101 = some (.putfield 56, 3, (12, 15, 0, 0), 379) := rfl
theorem s214_101 {c : Nat → List AV → SS → Option Out} {l0 : Option AV} {j t : Nat} {x : Int32} {L2 : List (Nat × AV)} {St : List AV} {S : SS} : ev c 214 101 [l0] L2 (aI x :: aR (12, j, t) :: St) S = if x = 0 ∨ x = 1 then ev c 214 104 [l0] L2 St (setI S.1 (12, j, t) 15 x, S.2) else none := ev_if i214_101 rfl
theorem i214_104 : insAt 214 104 = some (.aload_n 0, 1, (0, 0, 0, 0), 0) := rfl
theorem s214_104 {c : Nat → List AV → SS → Option Out} {o : OId} {L2 : List (Nat × AV)} {St : List AV} {S : SS} : ev c 214 104 [some (aR o)] L2 St S = ev c 214 105 [some (aR o)] L2 (aR o :: St) S := ev_go i214_104 rfl
theorem i214_105 : insAt 214 105 = some (.new 60, 3, (1, 0, 0, 0), 380) := rfl
theorem i214_108 : insAt 214 108 = some (.dup, 1, (0, 0, 0, 0), 0) := rfl
theorem s214_108 {c : Nat → List AV → SS → Option Out} {l0 : Option AV} {x : OId} {L2 : List (Nat × AV)} {St : List AV} {S : SS} : ev c 214 108 [l0] L2 (aR x :: St) S = ev c 214 109 [l0] L2 (aR x :: aR x :: St) S := ev_go i214_108 rfl
theorem i214_109 : insAt 214 109 = some (.invokespecial 62, 3, (8, 0, 5, 1), 381) := rfl
theorem s214_109 {c : Nat → List AV → SS → Option Out} {l0 : Option AV} {t0 t1 : AV} {j t : Nat} {L2 : List (Nat × AV)} {S : SS} : ev c 214 109 [l0] L2 [aR (1, j, t), t0, t1] S = ck (c 8 [aR (1, j, t)] S) (fun v S' => ev c 214 112 [l0] L2 (v.toList ++ [t0, t1]) S') := ev_call i214_109 rfl
theorem i214_112 : insAt 214 112 = some (.invokevirtual 63, 3, (190, 0, 2, 1), 382) := rfl
theorem s214_112 {c : Nat → List AV → SS → Option Out} {l0 : Option AV} {t0 : AV} {j t : Nat} {L2 : List (Nat × AV)} {S : SS} : ev c 214 112 [l0] L2 [aR (1, j, t), t0] S = ck (c 190 [aR (1, j, t)] S) (fun v S' => ev c 214 115 [l0] L2 (v.toList ++ [t0]) S') := ev_call i214_112 rfl
theorem i214_115 : insAt 214 115 = some (.putfield 67, 3, (12, 16, 0, 0), 383) := rfl
theorem s214_115 {c : Nat → List AV → SS → Option Out} {l0 : Option AV} {j t : Nat} {p : OId} {L2 : List (Nat × AV)} {St : List AV} {S : SS} : ev c 214 115 [l0] L2 (aR p :: aR (12, j, t) :: St) S = ev c 214 118 [l0] L2 St (S.1, setV S.2.1 (12, j, t) 16 (aR p), S.2.2) := ev_go i214_115 rfl
theorem i214_118 : insAt 214 118 = some (.aload_n 0, 1, (0, 0, 0, 0), 0) := rfl
theorem s214_118 {c : Nat → List AV → SS → Option Out} {o : OId} {L2 : List (Nat × AV)} {St : List AV} {S : SS} : ev c 214 118 [some (aR o)] L2 St S = ev c 214 119 [some (aR o)] L2 (aR o :: St) S := ev_go i214_118 rfl
theorem i214_119 : insAt 214 119 = some (.getfield 7, 3, (12, 0, 0, 0), 364) := rfl
theorem s214_119 {c : Nat → List AV → SS → Option Out} {l0 : Option AV} {j t : Nat} {L2 : List (Nat × AV)} {St : List AV} {S : SS} : ev c 214 119 [l0] L2 (aR (12, j, t) :: St) S = ev c 214 122 [l0] L2 (S.2.2.1 (12, j, t) 0 :: St) S := ev_go i214_119 rfl
theorem i214_122 : insAt 214 122 = some (.iconst 0, 1, (0, 0, 0, 0), 0) := rfl
theorem s214_122 {c : Nat → List AV → SS → Option Out} {l0 : Option AV} {L2 : List (Nat × AV)} {St : List AV} {S : SS} : ev c 214 122 [l0] L2 St S = ev c 214 123 [l0] L2 (aI 0 :: St) S := ev_go i214_122 rfl
theorem i214_123 : insAt 214 123 = some (.bipush 10, 2, (0, 0, 0, 0), 0) := rfl
theorem s214_123 {c : Nat → List AV → SS → Option Out} {l0 : Option AV} {L2 : List (Nat × AV)} {St : List AV} {S : SS} : ev c 214 123 [l0] L2 St S = ev c 214 125 [l0] L2 (aI 10 :: St) S := ev_go i214_123 rfl
theorem i214_125 : insAt 214 125 = some (.iastore, 1, (0, 0, 0, 0), 0) := rfl
theorem s214_125 {c : Nat → List AV → SS → Option Out} {l0 : Option AV} {x i : Int32} {o : OId} {L2 : List (Nat × AV)} {St : List AV} {S : SS} : ev c 214 125 [l0] L2 (aI x :: aI i :: aR o :: St) S = kIw o i (ev c 214 126 [l0] L2 St (setI S.1 o i.toNatClampNeg x, S.2)) := ev_iastore i214_125
theorem i214_126 : insAt 214 126 = some (.aload_n 0, 1, (0, 0, 0, 0), 0) := rfl
theorem s214_126 {c : Nat → List AV → SS → Option Out} {o : OId} {L2 : List (Nat × AV)} {St : List AV} {S : SS} : ev c 214 126 [some (aR o)] L2 St S = ev c 214 127 [some (aR o)] L2 (aR o :: St) S := ev_go i214_126 rfl
theorem i214_127 : insAt 214 127 = some (.getfield 7, 3, (12, 0, 0, 0), 364) := rfl
theorem s214_127 {c : Nat → List AV → SS → Option Out} {l0 : Option AV} {j t : Nat} {L2 : List (Nat × AV)} {St : List AV} {S : SS} : ev c 214 127 [l0] L2 (aR (12, j, t) :: St) S = ev c 214 130 [l0] L2 (S.2.2.1 (12, j, t) 0 :: St) S := ev_go i214_127 rfl
theorem i214_130 : insAt 214 130 = some (.iconst 1, 1, (0, 0, 0, 0), 0) := rfl
theorem s214_130 {c : Nat → List AV → SS → Option Out} {l0 : Option AV} {L2 : List (Nat × AV)} {St : List AV} {S : SS} : ev c 214 130 [l0] L2 St S = ev c 214 131 [l0] L2 (aI 1 :: St) S := ev_go i214_130 rfl
theorem i214_131 : insAt 214 131 = some (.bipush 20, 2, (0, 0, 0, 0), 0) := rfl
theorem s214_131 {c : Nat → List AV → SS → Option Out} {l0 : Option AV} {L2 : List (Nat × AV)} {St : List AV} {S : SS} : ev c 214 131 [l0] L2 St S = ev c 214 133 [l0] L2 (aI 20 :: St) S := ev_go i214_131 rfl
theorem i214_133 : insAt 214 133 = some (.iastore, 1, (0, 0, 0, 0), 0) := rfl
theorem s214_133 {c : Nat → List AV → SS → Option Out} {l0 : Option AV} {x i : Int32} {o : OId} {L2 : List (Nat × AV)} {St : List AV} {S : SS} : ev c 214 133 [l0] L2 (aI x :: aI i :: aR o :: St) S = kIw o i (ev c 214 134 [l0] L2 St (setI S.1 o i.toNatClampNeg x, S.2)) := ev_iastore i214_133
theorem i214_134 : insAt 214 134 = some (.aload_n 0, 1, (0, 0, 0, 0), 0) := rfl
theorem s214_134 {c : Nat → List AV → SS → Option Out} {o : OId} {L2 : List (Nat × AV)} {St : List AV} {S : SS} : ev c 214 134 [some (aR o)] L2 St S = ev c 214 135 [some (aR o)] L2 (aR o :: St) S := ev_go i214_134 rfl
theorem i214_135 : insAt 214 135 = some (.getfield 7, 3, (12, 0, 0, 0), 364) := rfl
theorem s214_135 {c : Nat → List AV → SS → Option Out} {l0 : Option AV} {j t : Nat} {L2 : List (Nat × AV)} {St : List AV} {S : SS} : ev c 214 135 [l0] L2 (aR (12, j, t) :: St) S = ev c 214 138 [l0] L2 (S.2.2.1 (12, j, t) 0 :: St) S := ev_go i214_135 rfl
theorem i214_138 : insAt 214 138 = some (.iconst 2, 1, (0, 0, 0, 0), 0) := rfl
theorem s214_138 {c : Nat → List AV → SS → Option Out} {l0 : Option AV} {L2 : List (Nat × AV)} {St : List AV} {S : SS} : ev c 214 138 [l0] L2 St S = ev c 214 139 [l0] L2 (aI 2 :: St) S := ev_go i214_138 rfl
theorem i214_139 : insAt 214 139 = some (.bipush 40, 2, (0, 0, 0, 0), 0) := rfl
theorem s214_139 {c : Nat → List AV → SS → Option Out} {l0 : Option AV} {L2 : List (Nat × AV)} {St : List AV} {S : SS} : ev c 214 139 [l0] L2 St S = ev c 214 141 [l0] L2 (aI 40 :: St) S := ev_go i214_139 rfl
theorem i214_141 : insAt 214 141 = some (.iastore, 1, (0, 0, 0, 0), 0) := rfl
theorem s214_141 {c : Nat → List AV → SS → Option Out} {l0 : Option AV} {x i : Int32} {o : OId} {L2 : List (Nat × AV)} {St : List AV} {S : SS} : ev c 214 141 [l0] L2 (aI x :: aI i :: aR o :: St) S = kIw o i (ev c 214 142 [l0] L2 St (setI S.1 o i.toNatClampNeg x, S.2)) := ev_iastore i214_141
theorem i214_142 : insAt 214 142 = some (.aload_n 0, 1, (0, 0, 0, 0), 0) := rfl
theorem s214_142 {c : Nat → List AV → SS → Option Out} {o : OId} {L2 : List (Nat × AV)} {St : List AV} {S : SS} : ev c 214 142 [some (aR o)] L2 St S = ev c 214 143 [some (aR o)] L2 (aR o :: St) S := ev_go i214_142 rfl
theorem i214_143 : insAt 214 143 = some (.getfield 7, 3, (12, 0, 0, 0), 364) := rfl
theorem s214_143 {c : Nat → List AV → SS → Option Out} {l0 : Option AV} {j t : Nat} {L2 : List (Nat × AV)} {St : List AV} {S : SS} : ev c 214 143 [l0] L2 (aR (12, j, t) :: St) S = ev c 214 146 [l0] L2 (S.2.2.1 (12, j, t) 0 :: St) S := ev_go i214_143 rfl
theorem i214_146 : insAt 214 146 = some (.bipush 8, 2, (0, 0, 0, 0), 0) := rfl
theorem s214_146 {c : Nat → List AV → SS → Option Out} {l0 : Option AV} {L2 : List (Nat × AV)} {St : List AV} {S : SS} : ev c 214 146 [l0] L2 St S = ev c 214 148 [l0] L2 (aI 8 :: St) S := ev_go i214_146 rfl
theorem i214_148 : insAt 214 148 = some (.iconst (-1), 1, (0, 0, 0, 0), 0) := rfl
theorem s214_148 {c : Nat → List AV → SS → Option Out} {l0 : Option AV} {L2 : List (Nat × AV)} {St : List AV} {S : SS} : ev c 214 148 [l0] L2 St S = ev c 214 149 [l0] L2 (aI (-1) :: St) S := ev_go i214_148 rfl
theorem i214_149 : insAt 214 149 = some (.iastore, 1, (0, 0, 0, 0), 0) := rfl
theorem s214_149 {c : Nat → List AV → SS → Option Out} {l0 : Option AV} {x i : Int32} {o : OId} {L2 : List (Nat × AV)} {St : List AV} {S : SS} : ev c 214 149 [l0] L2 (aI x :: aI i :: aR o :: St) S = kIw o i (ev c 214 150 [l0] L2 St (setI S.1 o i.toNatClampNeg x, S.2)) := ev_iastore i214_149
theorem i214_150 : insAt 214 150 = some (.return_, 1, (0, 0, 0, 0), 0) := rfl
theorem s214_150 {c : Nat → List AV → SS → Option Out} {l0 : Option AV} {L2 : List (Nat × AV)} {S : SS} : ev c 214 150 [l0] L2 [] S = some (.inl none, S) := ev_end i214_150 rfl
theorem m214 {d : Nat} {o : OId} {S : SS} : evm (d + 1) 214 [aR o] S = ev (evm d) 214 0 [some (aR o)] [] [] S := evm_s (n := 1) rfl (Nat.le_of_ble_eq_true rfl) rfl rfl
/-! FrequencyOfficeModel.thrown()I -/
theorem i215_0 : insAt 215 0 = some (.aload_n 0, 1, (0, 0, 0, 0), 0) := rfl
theorem s215_0 {c : Nat → List AV → SS → Option Out} {o : OId} {L2 : List (Nat × AV)} {St : List AV} {S : SS} : ev c 215 0 [some (aR o)] L2 St S = ev c 215 1 [some (aR o)] L2 (aR o :: St) S := ev_go i215_0 rfl
theorem i215_1 : insAt 215 1 = some (.getfield 31, 3, (12, 7, 0, 0), 371) := rfl
theorem s215_1 {c : Nat → List AV → SS → Option Out} {l0 : Option AV} {j t : Nat} {L2 : List (Nat × AV)} {St : List AV} {S : SS} : ev c 215 1 [l0] L2 (aR (12, j, t) :: St) S = ev c 215 4 [l0] L2 (aI (S.1 (12, j, t) 7) :: St) S := ev_go i215_1 rfl
theorem i215_4 : insAt 215 4 = some (.ireturn, 1, (0, 0, 0, 0), 0) := rfl
theorem s215_4 {c : Nat → List AV → SS → Option Out} {l0 : Option AV} {x : Int32} {L2 : List (Nat × AV)} {S : SS} : ev c 215 4 [l0] L2 [aI x] S = some (.inl (some (aI x)), S) := ev_end i215_4 rfl
theorem m215 {d : Nat} {o : OId} {S : SS} : evm (d + 1) 215 [aR o] S = ev (evm d) 215 0 [some (aR o)] [] [] S := evm_s (n := 1) rfl (Nat.le_of_ble_eq_true rfl) rfl rfl
/-! FrequencyOfficeModel.setRadii(III)I -/
theorem i216_0 : insAt 216 0 = some (.aload_n 0, 1, (0, 0, 0, 0), 0) := rfl
theorem s216_0 {c : Nat → List AV → SS → Option Out} {l1 l2 l3 l4 : Option AV} {o : OId} {L2 : List (Nat × AV)} {St : List AV} {S : SS} : ev c 216 0 [some (aR o), l1, l2, l3, l4] L2 St S = ev c 216 1 [some (aR o), l1, l2, l3, l4] L2 (aR o :: St) S := ev_go i216_0 rfl
theorem i216_1 : insAt 216 1 = some (.iload_n 1, 1, (0, 0, 0, 0), 0) := rfl
theorem s216_1 {c : Nat → List AV → SS → Option Out} {l0 l2 l3 l4 : Option AV} {x : Int32} {L2 : List (Nat × AV)} {St : List AV} {S : SS} : ev c 216 1 [l0, some (aI x), l2, l3, l4] L2 St S = ev c 216 2 [l0, some (aI x), l2, l3, l4] L2 (aI x :: St) S := ev_go i216_1 rfl
theorem i216_2 : insAt 216 2 = some (.ifCond .lt 20, 3, (0, 0, 0, 0), 0) := rfl
theorem s216_2 {c : Nat → List AV → SS → Option Out} {l0 l1 l2 l3 l4 : Option AV} {x : Int32} {L2 : List (Nat × AV)} {St : List AV} {S : SS} : ev c 216 2 [l0, l1, l2, l3, l4] L2 (aI x :: St) S = if x < 0 then ev c 216 22 [l0, l1, l2, l3, l4] L2 St S else ev c 216 5 [l0, l1, l2, l3, l4] L2 St S := ev_br i216_2 rfl
theorem i216_5 : insAt 216 5 = some (.iload_n 2, 1, (0, 0, 0, 0), 0) := rfl
theorem s216_5 {c : Nat → List AV → SS → Option Out} {l0 l1 l3 l4 : Option AV} {x : Int32} {L2 : List (Nat × AV)} {St : List AV} {S : SS} : ev c 216 5 [l0, l1, some (aI x), l3, l4] L2 St S = ev c 216 6 [l0, l1, some (aI x), l3, l4] L2 (aI x :: St) S := ev_go i216_5 rfl
theorem i216_6 : insAt 216 6 = some (.iload_n 1, 1, (0, 0, 0, 0), 0) := rfl
theorem s216_6 {c : Nat → List AV → SS → Option Out} {l0 l2 l3 l4 : Option AV} {x : Int32} {L2 : List (Nat × AV)} {St : List AV} {S : SS} : ev c 216 6 [l0, some (aI x), l2, l3, l4] L2 St S = ev c 216 7 [l0, some (aI x), l2, l3, l4] L2 (aI x :: St) S := ev_go i216_6 rfl
theorem i216_7 : insAt 216 7 = some (.if_icmp .lt 15, 3, (0, 0, 0, 0), 0) := rfl
theorem s216_7 {c : Nat → List AV → SS → Option Out} {l0 l1 l2 l3 l4 : Option AV} {x y : Int32} {L2 : List (Nat × AV)} {St : List AV} {S : SS} : ev c 216 7 [l0, l1, l2, l3, l4] L2 (aI y :: aI x :: St) S = if x < y then ev c 216 22 [l0, l1, l2, l3, l4] L2 St S else ev c 216 10 [l0, l1, l2, l3, l4] L2 St S := ev_br i216_7 rfl
theorem i216_10 : insAt 216 10 = some (.iload_n 3, 1, (0, 0, 0, 0), 0) := rfl
theorem s216_10 {c : Nat → List AV → SS → Option Out} {l0 l1 l2 l4 : Option AV} {x : Int32} {L2 : List (Nat × AV)} {St : List AV} {S : SS} : ev c 216 10 [l0, l1, l2, some (aI x), l4] L2 St S = ev c 216 11 [l0, l1, l2, some (aI x), l4] L2 (aI x :: St) S := ev_go i216_10 rfl
theorem i216_11 : insAt 216 11 = some (.iload_n 2, 1, (0, 0, 0, 0), 0) := rfl
theorem s216_11 {c : Nat → List AV → SS → Option Out} {l0 l1 l3 l4 : Option AV} {x : Int32} {L2 : List (Nat × AV)} {St : List AV} {S : SS} : ev c 216 11 [l0, l1, some (aI x), l3, l4] L2 St S = ev c 216 12 [l0, l1, some (aI x), l3, l4] L2 (aI x :: St) S := ev_go i216_11 rfl
theorem i216_12 : insAt 216 12 = some (.if_icmp .lt 10, 3, (0, 0, 0, 0), 0) := rfl
theorem s216_12 {c : Nat → List AV → SS → Option Out} {l0 l1 l2 l3 l4 : Option AV} {x y : Int32} {L2 : List (Nat × AV)} {St : List AV} {S : SS} : ev c 216 12 [l0, l1, l2, l3, l4] L2 (aI y :: aI x :: St) S = if x < y then ev c 216 22 [l0, l1, l2, l3, l4] L2 St S else ev c 216 15 [l0, l1, l2, l3, l4] L2 St S := ev_br i216_12 rfl
theorem i216_15 : insAt 216 15 = some (.iload_n 3, 1, (0, 0, 0, 0), 0) := rfl
theorem s216_15 {c : Nat → List AV → SS → Option Out} {l0 l1 l2 l4 : Option AV} {x : Int32} {L2 : List (Nat × AV)} {St : List AV} {S : SS} : ev c 216 15 [l0, l1, l2, some (aI x), l4] L2 St S = ev c 216 16 [l0, l1, l2, some (aI x), l4] L2 (aI x :: St) S := ev_go i216_15 rfl
theorem i216_16 : insAt 216 16 = some (.sipush 200, 3, (0, 0, 0, 0), 0) := rfl
theorem s216_16 {c : Nat → List AV → SS → Option Out} {l0 l1 l2 l3 l4 : Option AV} {L2 : List (Nat × AV)} {St : List AV} {S : SS} : ev c 216 16 [l0, l1, l2, l3, l4] L2 St S = ev c 216 19 [l0, l1, l2, l3, l4] L2 (aI 200 :: St) S := ev_go i216_16 rfl
theorem i216_19 : insAt 216 19 = some (.if_icmp .le 7, 3, (0, 0, 0, 0), 0) := rfl
theorem s216_19 {c : Nat → List AV → SS → Option Out} {l0 l1 l2 l3 l4 : Option AV} {x y : Int32} {L2 : List (Nat × AV)} {St : List AV} {S : SS} : ev c 216 19 [l0, l1, l2, l3, l4] L2 (aI y :: aI x :: St) S = if x ≤ y then ev c 216 26 [l0, l1, l2, l3, l4] L2 St S else ev c 216 22 [l0, l1, l2, l3, l4] L2 St S := ev_br i216_19 rfl
theorem i216_22 : insAt 216 22 = some (.iconst 1, 1, (0, 0, 0, 0), 0) := rfl
theorem s216_22 {c : Nat → List AV → SS → Option Out} {l0 l1 l2 l3 l4 : Option AV} {L2 : List (Nat × AV)} {St : List AV} {S : SS} : ev c 216 22 [l0, l1, l2, l3, l4] L2 St S = ev c 216 23 [l0, l1, l2, l3, l4] L2 (aI 1 :: St) S := ev_go i216_22 rfl
theorem i216_23 : insAt 216 23 = some (.goto 18, 3, (0, 0, 0, 0), 0) := rfl
theorem s216_23 {c : Nat → List AV → SS → Option Out} {l0 l1 l2 l3 l4 : Option AV} {L2 : List (Nat × AV)} {St : List AV} {S : SS} : ev c 216 23 [l0, l1, l2, l3, l4] L2 St S = ev c 216 41 [l0, l1, l2, l3, l4] L2 St S := ev_go i216_23 rfl
theorem i216_26 : insAt 216 26 = some (.aload_n 0, 1, (0, 0, 0, 0), 0) := rfl
theorem s216_26 {c : Nat → List AV → SS → Option Out} {l1 l2 l3 l4 : Option AV} {o : OId} {L2 : List (Nat × AV)} {St : List AV} {S : SS} : ev c 216 26 [some (aR o), l1, l2, l3, l4] L2 St S = ev c 216 27 [some (aR o), l1, l2, l3, l4] L2 (aR o :: St) S := ev_go i216_26 rfl
theorem i216_27 : insAt 216 27 = some (.getfield 7, 3, (12, 0, 0, 0), 364) := rfl
theorem s216_27 {c : Nat → List AV → SS → Option Out} {l0 l1 l2 l3 l4 : Option AV} {j t : Nat} {L2 : List (Nat × AV)} {St : List AV} {S : SS} : ev c 216 27 [l0, l1, l2, l3, l4] L2 (aR (12, j, t) :: St) S = ev c 216 30 [l0, l1, l2, l3, l4] L2 (S.2.2.1 (12, j, t) 0 :: St) S := ev_go i216_27 rfl
theorem i216_30 : insAt 216 30 = some (.bipush 7, 2, (0, 0, 0, 0), 0) := rfl
theorem s216_30 {c : Nat → List AV → SS → Option Out} {l0 l1 l2 l3 l4 : Option AV} {L2 : List (Nat × AV)} {St : List AV} {S : SS} : ev c 216 30 [l0, l1, l2, l3, l4] L2 St S = ev c 216 32 [l0, l1, l2, l3, l4] L2 (aI 7 :: St) S := ev_go i216_30 rfl
theorem i216_32 : insAt 216 32 = some (.iaload, 1, (0, 0, 0, 0), 0) := rfl
theorem s216_32 {c : Nat → List AV → SS → Option Out} {l0 l1 l2 l3 l4 : Option AV} {i : Int32} {o : OId} {L2 : List (Nat × AV)} {St : List AV} {S : SS} : ev c 216 32 [l0, l1, l2, l3, l4] L2 (aI i :: aR o :: St) S = kI o i (ev c 216 33 [l0, l1, l2, l3, l4] L2 (aI (agI S o i.toNatClampNeg) :: St) S) := ev_iaload i216_32
theorem i216_33 : insAt 216 33 = some (.ifCond .le 7, 3, (0, 0, 0, 0), 0) := rfl
theorem s216_33 {c : Nat → List AV → SS → Option Out} {l0 l1 l2 l3 l4 : Option AV} {x : Int32} {L2 : List (Nat × AV)} {St : List AV} {S : SS} : ev c 216 33 [l0, l1, l2, l3, l4] L2 (aI x :: St) S = if x ≤ 0 then ev c 216 40 [l0, l1, l2, l3, l4] L2 St S else ev c 216 36 [l0, l1, l2, l3, l4] L2 St S := ev_br i216_33 rfl
theorem i216_36 : insAt 216 36 = some (.iconst 2, 1, (0, 0, 0, 0), 0) := rfl
theorem s216_36 {c : Nat → List AV → SS → Option Out} {l0 l1 l2 l3 l4 : Option AV} {L2 : List (Nat × AV)} {St : List AV} {S : SS} : ev c 216 36 [l0, l1, l2, l3, l4] L2 St S = ev c 216 37 [l0, l1, l2, l3, l4] L2 (aI 2 :: St) S := ev_go i216_36 rfl
theorem i216_37 : insAt 216 37 = some (.goto 4, 3, (0, 0, 0, 0), 0) := rfl
theorem s216_37 {c : Nat → List AV → SS → Option Out} {l0 l1 l2 l3 l4 : Option AV} {L2 : List (Nat × AV)} {St : List AV} {S : SS} : ev c 216 37 [l0, l1, l2, l3, l4] L2 St S = ev c 216 41 [l0, l1, l2, l3, l4] L2 St S := ev_go i216_37 rfl
theorem i216_40 : insAt 216 40 = some (.iconst 0, 1, (0, 0, 0, 0), 0) := rfl
theorem s216_40 {c : Nat → List AV → SS → Option Out} {l0 l1 l2 l3 l4 : Option AV} {L2 : List (Nat × AV)} {St : List AV} {S : SS} : ev c 216 40 [l0, l1, l2, l3, l4] L2 St S = ev c 216 41 [l0, l1, l2, l3, l4] L2 (aI 0 :: St) S := ev_go i216_40 rfl
theorem i216_41 : insAt 216 41 = some (.putfield 31, 3, (12, 7, 0, 0), 371) := rfl
theorem s216_41 {c : Nat → List AV → SS → Option Out} {l0 l1 l2 l3 l4 : Option AV} {j t : Nat} {x : Int32} {L2 : List (Nat × AV)} {St : List AV} {S : SS} : ev c 216 41 [l0, l1, l2, l3, l4] L2 (aI x :: aR (12, j, t) :: St) S = ev c 216 44 [l0, l1, l2, l3, l4] L2 St (setI S.1 (12, j, t) 7 x, S.2) := ev_go i216_41 rfl
theorem i216_44 : insAt 216 44 = some (.aload_n 0, 1, (0, 0, 0, 0), 0) := rfl
theorem s216_44 {c : Nat → List AV → SS → Option Out} {l1 l2 l3 l4 : Option AV} {o : OId} {L2 : List (Nat × AV)} {St : List AV} {S : SS} : ev c 216 44 [some (aR o), l1, l2, l3, l4] L2 St S = ev c 216 45 [some (aR o), l1, l2, l3, l4] L2 (aR o :: St) S := ev_go i216_44 rfl
theorem i216_45 : insAt 216 45 = some (.getfield 31, 3, (12, 7, 0, 0), 371) := rfl
theorem s216_45 {c : Nat → List AV → SS → Option Out} {l0 l1 l2 l3 l4 : Option AV} {j t : Nat} {L2 : List (Nat × AV)} {St : List AV} {S : SS} : ev c 216 45 [l0, l1, l2, l3, l4] L2 (aR (12, j, t) :: St) S = ev c 216 48 [l0, l1, l2, l3, l4] L2 (aI (S.1 (12, j, t) 7) :: St) S := ev_go i216_45 rfl
theorem i216_48 : insAt 216 48 = some (.ifCond .le 5, 3, (0, 0, 0, 0), 0) := rfl
theorem s216_48 {c : Nat → List AV → SS → Option Out} {l0 l1 l2 l3 l4 : Option AV} {x : Int32} {L2 : List (Nat × AV)} {St : List AV} {S : SS} : ev c 216 48 [l0, l1, l2, l3, l4] L2 (aI x :: St) S = if x ≤ 0 then ev c 216 53 [l0, l1, l2, l3, l4] L2 St S else ev c 216 51 [l0, l1, l2, l3, l4] L2 St S := ev_br i216_48 rfl
theorem i216_51 : insAt 216 51 = some (.iconst 0, 1, (0, 0, 0, 0), 0) := rfl
theorem s216_51 {c : Nat → List AV → SS → Option Out} {l0 l1 l2 l3 l4 : Option AV} {L2 : List (Nat × AV)} {St : List AV} {S : SS} : ev c 216 51 [l0, l1, l2, l3, l4] L2 St S = ev c 216 52 [l0, l1, l2, l3, l4] L2 (aI 0 :: St) S := ev_go i216_51 rfl
theorem i216_52 : insAt 216 52 = some (.ireturn, 1, (0, 0, 0, 0), 0) := rfl
theorem s216_52 {c : Nat → List AV → SS → Option Out} {l0 l1 l2 l3 l4 : Option AV} {x : Int32} {L2 : List (Nat × AV)} {S : SS} : ev c 216 52 [l0, l1, l2, l3, l4] L2 [aI x] S = some (.inl (some (aI x)), S) := ev_end i216_52 rfl
theorem i216_53 : insAt 216 53 = some (.aload_n 0, 1, (0, 0, 0, 0), 0) := rfl
theorem s216_53 {c : Nat → List AV → SS → Option Out} {l1 l2 l3 l4 : Option AV} {o : OId} {L2 : List (Nat × AV)} {St : List AV} {S : SS} : ev c 216 53 [some (aR o), l1, l2, l3, l4] L2 St S = ev c 216 54 [some (aR o), l1, l2, l3, l4] L2 (aR o :: St) S := ev_go i216_53 rfl
theorem i216_54 : insAt 216 54 = some (.invokevirtual 86, 3, (217, 0, 2, 12), 384) := rfl
theorem s216_54 {c : Nat → List AV → SS → Option Out} {l0 l1 l2 l3 l4 : Option AV} {j t : Nat} {L2 : List (Nat × AV)} {S : SS} : ev c 216 54 [l0, l1, l2, l3, l4] L2 [aR (12, j, t)] S = ck (c 217 [aR (12, j, t)] S) (fun v S' => ev c 216 57 [l0, l1, l2, l3, l4] L2 (v.toList ++ []) S') := ev_call i216_54 rfl
theorem i216_57 : insAt 216 57 = some (.aload_n 0, 1, (0, 0, 0, 0), 0) := rfl
theorem s216_57 {c : Nat → List AV → SS → Option Out} {l1 l2 l3 l4 : Option AV} {o : OId} {L2 : List (Nat × AV)} {St : List AV} {S : SS} : ev c 216 57 [some (aR o), l1, l2, l3, l4] L2 St S = ev c 216 58 [some (aR o), l1, l2, l3, l4] L2 (aR o :: St) S := ev_go i216_57 rfl
theorem i216_58 : insAt 216 58 = some (.getfield 7, 3, (12, 0, 0, 0), 364) := rfl
theorem s216_58 {c : Nat → List AV → SS → Option Out} {l0 l1 l2 l3 l4 : Option AV} {j t : Nat} {L2 : List (Nat × AV)} {St : List AV} {S : SS} : ev c 216 58 [l0, l1, l2, l3, l4] L2 (aR (12, j, t) :: St) S = ev c 216 61 [l0, l1, l2, l3, l4] L2 (S.2.2.1 (12, j, t) 0 :: St) S := ev_go i216_58 rfl
theorem i216_61 : insAt 216 61 = some (.iconst 2, 1, (0, 0, 0, 0), 0) := rfl
theorem s216_61 {c : Nat → List AV → SS → Option Out} {l0 l1 l2 l3 l4 : Option AV} {L2 : List (Nat × AV)} {St : List AV} {S : SS} : ev c 216 61 [l0, l1, l2, l3, l4] L2 St S = ev c 216 62 [l0, l1, l2, l3, l4] L2 (aI 2 :: St) S := ev_go i216_61 rfl
theorem i216_62 : insAt 216 62 = some (.iaload, 1, (0, 0, 0, 0), 0) := rfl
theorem s216_62 {c : Nat → List AV → SS → Option Out} {l0 l1 l2 l3 l4 : Option AV} {i : Int32} {o : OId} {L2 : List (Nat × AV)} {St : List AV} {S : SS} : ev c 216 62 [l0, l1, l2, l3, l4] L2 (aI i :: aR o :: St) S = kI o i (ev c 216 63 [l0, l1, l2, l3, l4] L2 (aI (agI S o i.toNatClampNeg) :: St) S) := ev_iaload i216_62
theorem i216_63 : insAt 216 63 = some (.istore 4, 2, (0, 0, 0, 0), 0) := rfl
theorem s216_63 {c : Nat → List AV → SS → Option Out} {l0 l1 l2 l3 l4 : Option AV} {x : Int32} {L2 : List (Nat × AV)} {St : List AV} {S : SS} : ev c 216 63 [l0, l1, l2, l3, l4] L2 (aI x :: St) S = ev c 216 65 [l0, l1, l2, l3, some (aI x)] (kil L2 4) St S := ev_go i216_63 rfl
theorem i216_65 : insAt 216 65 = some (.aload_n 0, 1, (0, 0, 0, 0), 0) := rfl
theorem s216_65 {c : Nat → List AV → SS → Option Out} {l1 l2 l3 l4 : Option AV} {o : OId} {L2 : List (Nat × AV)} {St : List AV} {S : SS} : ev c 216 65 [some (aR o), l1, l2, l3, l4] L2 St S = ev c 216 66 [some (aR o), l1, l2, l3, l4] L2 (aR o :: St) S := ev_go i216_65 rfl
theorem i216_66 : insAt 216 66 = some (.getfield 7, 3, (12, 0, 0, 0), 364) := rfl
theorem s216_66 {c : Nat → List AV → SS → Option Out} {l0 l1 l2 l3 l4 : Option AV} {j t : Nat} {L2 : List (Nat × AV)} {St : List AV} {S : SS} : ev c 216 66 [l0, l1, l2, l3, l4] L2 (aR (12, j, t) :: St) S = ev c 216 69 [l0, l1, l2, l3, l4] L2 (S.2.2.1 (12, j, t) 0 :: St) S := ev_go i216_66 rfl
theorem i216_69 : insAt 216 69 = some (.iconst 0, 1, (0, 0, 0, 0), 0) := rfl
theorem s216_69 {c : Nat → List AV → SS → Option Out} {l0 l1 l2 l3 l4 : Option AV} {L2 : List (Nat × AV)} {St : List AV} {S : SS} : ev c 216 69 [l0, l1, l2, l3, l4] L2 St S = ev c 216 70 [l0, l1, l2, l3, l4] L2 (aI 0 :: St) S := ev_go i216_69 rfl
theorem i216_70 : insAt 216 70 = some (.iload_n 1, 1, (0, 0, 0, 0), 0) := rfl
theorem s216_70 {c : Nat → List AV → SS → Option Out} {l0 l2 l3 l4 : Option AV} {x : Int32} {L2 : List (Nat × AV)} {St : List AV} {S : SS} : ev c 216 70 [l0, some (aI x), l2, l3, l4] L2 St S = ev c 216 71 [l0, some (aI x), l2, l3, l4] L2 (aI x :: St) S := ev_go i216_70 rfl
theorem i216_71 : insAt 216 71 = some (.iastore, 1, (0, 0, 0, 0), 0) := rfl
theorem s216_71 {c : Nat → List AV → SS → Option Out} {l0 l1 l2 l3 l4 : Option AV} {x i : Int32} {o : OId} {L2 : List (Nat × AV)} {St : List AV} {S : SS} : ev c 216 71 [l0, l1, l2, l3, l4] L2 (aI x :: aI i :: aR o :: St) S = kIw o i (ev c 216 72 [l0, l1, l2, l3, l4] L2 St (setI S.1 o i.toNatClampNeg x, S.2)) := ev_iastore i216_71
theorem i216_72 : insAt 216 72 = some (.aload_n 0, 1, (0, 0, 0, 0), 0) := rfl
theorem s216_72 {c : Nat → List AV → SS → Option Out} {l1 l2 l3 l4 : Option AV} {o : OId} {L2 : List (Nat × AV)} {St : List AV} {S : SS} : ev c 216 72 [some (aR o), l1, l2, l3, l4] L2 St S = ev c 216 73 [some (aR o), l1, l2, l3, l4] L2 (aR o :: St) S := ev_go i216_72 rfl
theorem i216_73 : insAt 216 73 = some (.getfield 7, 3, (12, 0, 0, 0), 364) := rfl
theorem s216_73 {c : Nat → List AV → SS → Option Out} {l0 l1 l2 l3 l4 : Option AV} {j t : Nat} {L2 : List (Nat × AV)} {St : List AV} {S : SS} : ev c 216 73 [l0, l1, l2, l3, l4] L2 (aR (12, j, t) :: St) S = ev c 216 76 [l0, l1, l2, l3, l4] L2 (S.2.2.1 (12, j, t) 0 :: St) S := ev_go i216_73 rfl
theorem i216_76 : insAt 216 76 = some (.iconst 1, 1, (0, 0, 0, 0), 0) := rfl
theorem s216_76 {c : Nat → List AV → SS → Option Out} {l0 l1 l2 l3 l4 : Option AV} {L2 : List (Nat × AV)} {St : List AV} {S : SS} : ev c 216 76 [l0, l1, l2, l3, l4] L2 St S = ev c 216 77 [l0, l1, l2, l3, l4] L2 (aI 1 :: St) S := ev_go i216_76 rfl
theorem i216_77 : insAt 216 77 = some (.iload_n 2, 1, (0, 0, 0, 0), 0) := rfl
theorem s216_77 {c : Nat → List AV → SS → Option Out} {l0 l1 l3 l4 : Option AV} {x : Int32} {L2 : List (Nat × AV)} {St : List AV} {S : SS} : ev c 216 77 [l0, l1, some (aI x), l3, l4] L2 St S = ev c 216 78 [l0, l1, some (aI x), l3, l4] L2 (aI x :: St) S := ev_go i216_77 rfl
theorem i216_78 : insAt 216 78 = some (.iastore, 1, (0, 0, 0, 0), 0) := rfl
theorem s216_78 {c : Nat → List AV → SS → Option Out} {l0 l1 l2 l3 l4 : Option AV} {x i : Int32} {o : OId} {L2 : List (Nat × AV)} {St : List AV} {S : SS} : ev c 216 78 [l0, l1, l2, l3, l4] L2 (aI x :: aI i :: aR o :: St) S = kIw o i (ev c 216 79 [l0, l1, l2, l3, l4] L2 St (setI S.1 o i.toNatClampNeg x, S.2)) := ev_iastore i216_78
theorem i216_79 : insAt 216 79 = some (.aload_n 0, 1, (0, 0, 0, 0), 0) := rfl
theorem s216_79 {c : Nat → List AV → SS → Option Out} {l1 l2 l3 l4 : Option AV} {o : OId} {L2 : List (Nat × AV)} {St : List AV} {S : SS} : ev c 216 79 [some (aR o), l1, l2, l3, l4] L2 St S = ev c 216 80 [some (aR o), l1, l2, l3, l4] L2 (aR o :: St) S := ev_go i216_79 rfl
theorem i216_80 : insAt 216 80 = some (.getfield 7, 3, (12, 0, 0, 0), 364) := rfl
theorem s216_80 {c : Nat → List AV → SS → Option Out} {l0 l1 l2 l3 l4 : Option AV} {j t : Nat} {L2 : List (Nat × AV)} {St : List AV} {S : SS} : ev c 216 80 [l0, l1, l2, l3, l4] L2 (aR (12, j, t) :: St) S = ev c 216 83 [l0, l1, l2, l3, l4] L2 (S.2.2.1 (12, j, t) 0 :: St) S := ev_go i216_80 rfl
theorem i216_83 : insAt 216 83 = some (.iconst 2, 1, (0, 0, 0, 0), 0) := rfl
theorem s216_83 {c : Nat → List AV → SS → Option Out} {l0 l1 l2 l3 l4 : Option AV} {L2 : List (Nat × AV)} {St : List AV} {S : SS} : ev c 216 83 [l0, l1, l2, l3, l4] L2 St S = ev c 216 84 [l0, l1, l2, l3, l4] L2 (aI 2 :: St) S := ev_go i216_83 rfl
theorem i216_84 : insAt 216 84 = some (.iload_n 3, 1, (0, 0, 0, 0), 0) := rfl
theorem s216_84 {c : Nat → List AV → SS → Option Out} {l0 l1 l2 l4 : Option AV} {x : Int32} {L2 : List (Nat × AV)} {St : List AV} {S : SS} : ev c 216 84 [l0, l1, l2, some (aI x), l4] L2 St S = ev c 216 85 [l0, l1, l2, some (aI x), l4] L2 (aI x :: St) S := ev_go i216_84 rfl
theorem i216_85 : insAt 216 85 = some (.iastore, 1, (0, 0, 0, 0), 0) := rfl
theorem s216_85 {c : Nat → List AV → SS → Option Out} {l0 l1 l2 l3 l4 : Option AV} {x i : Int32} {o : OId} {L2 : List (Nat × AV)} {St : List AV} {S : SS} : ev c 216 85 [l0, l1, l2, l3, l4] L2 (aI x :: aI i :: aR o :: St) S = kIw o i (ev c 216 86 [l0, l1, l2, l3, l4] L2 St (setI S.1 o i.toNatClampNeg x, S.2)) := ev_iastore i216_85
theorem i216_86 : insAt 216 86 = some (.iload 4, 2, (0, 0, 0, 0), 0) := rfl
theorem s216_86 {c : Nat → List AV → SS → Option Out} {l0 l1 l2 l3 : Option AV} {x : Int32} {L2 : List (Nat × AV)} {St : List AV} {S : SS} : ev c 216 86 [l0, l1, l2, l3, some (aI x)] L2 St S = ev c 216 88 [l0, l1, l2, l3, some (aI x)] L2 (aI x :: St) S := ev_go i216_86 rfl
theorem i216_88 : insAt 216 88 = some (.ireturn, 1, (0, 0, 0, 0), 0) := rfl
theorem s216_88 {c : Nat → List AV → SS → Option Out} {l0 l1 l2 l3 l4 : Option AV} {x : Int32} {L2 : List (Nat × AV)} {S : SS} : ev c 216 88 [l0, l1, l2, l3, l4] L2 [aI x] S = some (.inl (some (aI x)), S) := ev_end i216_88 rfl
theorem m216 {d : Nat} {o : OId} {a0 : Int32} {a1 : Int32} {a2 : Int32} {S : SS} : evm (d + 1) 216 [aR o, aI a0, aI a1, aI a2] S = ev (evm d) 216 0 [some (aR o), some (aI a0), some (aI a1), some (aI a2), none] [] [] S := evm_s (n := 5) rfl (Nat.le_of_ble_eq_true rfl) rfl rfl
/-! FrequencyOfficeModel.keeps()V -/
theorem i217_0 : insAt 217 0 = some (.aload_n 0, 1, (0, 0, 0, 0), 0) := rfl
theorem s217_0 {c : Nat → List AV → SS → Option Out} {l1 : Option AV} {o : OId} {L2 : List (Nat × AV)} {St : List AV} {S : SS} : ev c 217 0 [some (aR o), l1] L2 St S = ev c 217 1 [some (aR o), l1] L2 (aR o :: St) S := ev_go i217_0 rfl
theorem i217_1 : insAt 217 1 = some (.getfield 35, 3, (12, 8, 0, 0), 372) := rfl
theorem s217_1 {c : Nat → List AV → SS → Option Out} {l0 l1 : Option AV} {j t : Nat} {L2 : List (Nat × AV)} {St : List AV} {S : SS} : ev c 217 1 [l0, l1] L2 (aR (12, j, t) :: St) S = ev c 217 4 [l0, l1] L2 (aI (S.1 (12, j, t) 8) :: St) S := ev_go i217_1 rfl
theorem i217_4 : insAt 217 4 = some (.bipush 6, 2, (0, 0, 0, 0), 0) := rfl
theorem s217_4 {c : Nat → List AV → SS → Option Out} {l0 l1 : Option AV} {L2 : List (Nat × AV)} {St : List AV} {S : SS} : ev c 217 4 [l0, l1] L2 St S = ev c 217 6 [l0, l1] L2 (aI 6 :: St) S := ev_go i217_4 rfl
theorem i217_6 : insAt 217 6 = some (.if_icmp .ne 43, 3, (0, 0, 0, 0), 0) := rfl
theorem s217_6 {c : Nat → List AV → SS → Option Out} {l0 l1 : Option AV} {x y : Int32} {L2 : List (Nat × AV)} {St : List AV} {S : SS} : ev c 217 6 [l0, l1] L2 (aI y :: aI x :: St) S = if x = y then ev c 217 9 [l0, l1] L2 St S else ev c 217 49 [l0, l1] L2 St S := (ev_br i217_6 rfl).trans (ite_not _ _ _)
theorem i217_9 : insAt 217 9 = some (.iconst 0, 1, (0, 0, 0, 0), 0) := rfl
theorem s217_9 {c : Nat → List AV → SS → Option Out} {l0 l1 : Option AV} {L2 : List (Nat × AV)} {St : List AV} {S : SS} : ev c 217 9 [l0, l1] L2 St S = ev c 217 10 [l0, l1] L2 (aI 0 :: St) S := ev_go i217_9 rfl
theorem i217_10 : insAt 217 10 = some (.istore_n 1, 1, (0, 0, 0, 0), 0) := rfl
theorem s217_10 {c : Nat → List AV → SS → Option Out} {l0 l1 : Option AV} {x : Int32} {L2 : List (Nat × AV)} {St : List AV} {S : SS} : ev c 217 10 [l0, l1] L2 (aI x :: St) S = ev c 217 11 [l0, some (aI x)] (kil L2 1) St S := ev_go i217_10 rfl
theorem i217_11 : insAt 217 11 = some (.iload_n 1, 1, (0, 0, 0, 0), 0) := rfl
theorem s217_11 {c : Nat → List AV → SS → Option Out} {l0 : Option AV} {x : Int32} {L2 : List (Nat × AV)} {St : List AV} {S : SS} : ev c 217 11 [l0, some (aI x)] L2 St S = ev c 217 12 [l0, some (aI x)] L2 (aI x :: St) S := ev_go i217_11 rfl
theorem i217_12 : insAt 217 12 = some (.sipush 530, 3, (0, 0, 0, 0), 0) := rfl
theorem s217_12 {c : Nat → List AV → SS → Option Out} {l0 l1 : Option AV} {L2 : List (Nat × AV)} {St : List AV} {S : SS} : ev c 217 12 [l0, l1] L2 St S = ev c 217 15 [l0, l1] L2 (aI 530 :: St) S := ev_go i217_12 rfl
theorem i217_15 : insAt 217 15 = some (.if_icmp .ge 24, 3, (0, 0, 0, 0), 0) := rfl
theorem s217_15 {c : Nat → List AV → SS → Option Out} {l0 l1 : Option AV} {x y : Int32} {L2 : List (Nat × AV)} {St : List AV} {S : SS} : ev c 217 15 [l0, l1] L2 (aI y :: aI x :: St) S = if y ≤ x then ev c 217 39 [l0, l1] L2 St S else ev c 217 18 [l0, l1] L2 St S := ev_br i217_15 rfl
theorem i217_18 : insAt 217 18 = some (.aload_n 0, 1, (0, 0, 0, 0), 0) := rfl
theorem s217_18 {c : Nat → List AV → SS → Option Out} {l1 : Option AV} {o : OId} {L2 : List (Nat × AV)} {St : List AV} {S : SS} : ev c 217 18 [some (aR o), l1] L2 St S = ev c 217 19 [some (aR o), l1] L2 (aR o :: St) S := ev_go i217_18 rfl
theorem i217_19 : insAt 217 19 = some (.getfield 16, 3, (12, 2, 0, 0), 366) := rfl
theorem s217_19 {c : Nat → List AV → SS → Option Out} {l0 l1 : Option AV} {j t : Nat} {L2 : List (Nat × AV)} {St : List AV} {S : SS} : ev c 217 19 [l0, l1] L2 (aR (12, j, t) :: St) S = ev c 217 22 [l0, l1] L2 (S.2.2.1 (12, j, t) 2 :: St) S := ev_go i217_19 rfl
theorem i217_22 : insAt 217 22 = some (.iload_n 1, 1, (0, 0, 0, 0), 0) := rfl
theorem s217_22 {c : Nat → List AV → SS → Option Out} {l0 : Option AV} {x : Int32} {L2 : List (Nat × AV)} {St : List AV} {S : SS} : ev c 217 22 [l0, some (aI x)] L2 St S = ev c 217 23 [l0, some (aI x)] L2 (aI x :: St) S := ev_go i217_22 rfl
theorem i217_23 : insAt 217 23 = some (.aload_n 0, 1, (0, 0, 0, 0), 0) := rfl
theorem s217_23 {c : Nat → List AV → SS → Option Out} {l1 : Option AV} {o : OId} {L2 : List (Nat × AV)} {St : List AV} {S : SS} : ev c 217 23 [some (aR o), l1] L2 St S = ev c 217 24 [some (aR o), l1] L2 (aR o :: St) S := ev_go i217_23 rfl
theorem i217_24 : insAt 217 24 = some (.getfield 16, 3, (12, 2, 0, 0), 366) := rfl
theorem s217_24 {c : Nat → List AV → SS → Option Out} {l0 l1 : Option AV} {j t : Nat} {L2 : List (Nat × AV)} {St : List AV} {S : SS} : ev c 217 24 [l0, l1] L2 (aR (12, j, t) :: St) S = ev c 217 27 [l0, l1] L2 (S.2.2.1 (12, j, t) 2 :: St) S := ev_go i217_24 rfl
theorem i217_27 : insAt 217 27 = some (.iload_n 1, 1, (0, 0, 0, 0), 0) := rfl
theorem s217_27 {c : Nat → List AV → SS → Option Out} {l0 : Option AV} {x : Int32} {L2 : List (Nat × AV)} {St : List AV} {S : SS} : ev c 217 27 [l0, some (aI x)] L2 St S = ev c 217 28 [l0, some (aI x)] L2 (aI x :: St) S := ev_go i217_27 rfl
theorem i217_28 : insAt 217 28 = some (.bipush 106, 2, (0, 0, 0, 0), 0) := rfl
theorem s217_28 {c : Nat → List AV → SS → Option Out} {l0 l1 : Option AV} {L2 : List (Nat × AV)} {St : List AV} {S : SS} : ev c 217 28 [l0, l1] L2 St S = ev c 217 30 [l0, l1] L2 (aI 106 :: St) S := ev_go i217_28 rfl
theorem i217_30 : insAt 217 30 = some (.iadd, 1, (0, 0, 0, 0), 0) := rfl
theorem s217_30 {c : Nat → List AV → SS → Option Out} {l0 l1 : Option AV} {x y : Int32} {L2 : List (Nat × AV)} {St : List AV} {S : SS} : ev c 217 30 [l0, l1] L2 (aI y :: aI x :: St) S = ev c 217 31 [l0, l1] L2 (aI (x + y) :: St) S := ev_go i217_30 rfl
theorem i217_31 : insAt 217 31 = some (.iaload, 1, (0, 0, 0, 0), 0) := rfl
theorem s217_31 {c : Nat → List AV → SS → Option Out} {l0 l1 : Option AV} {i : Int32} {o : OId} {L2 : List (Nat × AV)} {St : List AV} {S : SS} : ev c 217 31 [l0, l1] L2 (aI i :: aR o :: St) S = kI o i (ev c 217 32 [l0, l1] L2 (aI (agI S o i.toNatClampNeg) :: St) S) := ev_iaload i217_31
theorem i217_32 : insAt 217 32 = some (.iastore, 1, (0, 0, 0, 0), 0) := rfl
theorem s217_32 {c : Nat → List AV → SS → Option Out} {l0 l1 : Option AV} {x i : Int32} {o : OId} {L2 : List (Nat × AV)} {St : List AV} {S : SS} : ev c 217 32 [l0, l1] L2 (aI x :: aI i :: aR o :: St) S = kIw o i (ev c 217 33 [l0, l1] L2 St (setI S.1 o i.toNatClampNeg x, S.2)) := ev_iastore i217_32
theorem i217_33 : insAt 217 33 = some (.iinc 1 1, 3, (0, 0, 0, 0), 0) := rfl
theorem s217_33 {c : Nat → List AV → SS → Option Out} {l0 : Option AV} {x : Int32} {L2 : List (Nat × AV)} {St : List AV} {S : SS} : ev c 217 33 [l0, some (aI x)] L2 St S = ev c 217 36 [l0, some (aI (x + 1))] (kil L2 1) St S := ev_go i217_33 rfl
theorem i217_36 : insAt 217 36 = some (.goto (-25), 3, (0, 0, 0, 0), 0) := rfl
theorem s217_36 {c : Nat → List AV → SS → Option Out} {l0 l1 : Option AV} {L2 : List (Nat × AV)} {St : List AV} {S : SS} : ev c 217 36 [l0, l1] L2 St S = ev c 217 11 [l0, l1] L2 St S := ev_go i217_36 rfl
theorem i217_39 : insAt 217 39 = some (.aload_n 0, 1, (0, 0, 0, 0), 0) := rfl
theorem s217_39 {c : Nat → List AV → SS → Option Out} {l1 : Option AV} {o : OId} {L2 : List (Nat × AV)} {St : List AV} {S : SS} : ev c 217 39 [some (aR o), l1] L2 St S = ev c 217 40 [some (aR o), l1] L2 (aR o :: St) S := ev_go i217_39 rfl
theorem i217_40 : insAt 217 40 = some (.dup, 1, (0, 0, 0, 0), 0) := rfl
theorem s217_40 {c : Nat → List AV → SS → Option Out} {l0 l1 : Option AV} {x : OId} {L2 : List (Nat × AV)} {St : List AV} {S : SS} : ev c 217 40 [l0, l1] L2 (aR x :: St) S = ev c 217 41 [l0, l1] L2 (aR x :: aR x :: St) S := ev_go i217_40 rfl
theorem i217_41 : insAt 217 41 = some (.getfield 35, 3, (12, 8, 0, 0), 372) := rfl
theorem s217_41 {c : Nat → List AV → SS → Option Out} {l0 l1 : Option AV} {j t : Nat} {L2 : List (Nat × AV)} {St : List AV} {S : SS} : ev c 217 41 [l0, l1] L2 (aR (12, j, t) :: St) S = ev c 217 44 [l0, l1] L2 (aI (S.1 (12, j, t) 8) :: St) S := ev_go i217_41 rfl
theorem i217_44 : insAt 217 44 = some (.iconst 1, 1, (0, 0, 0, 0), 0) := rfl
theorem s217_44 {c : Nat → List AV → SS → Option Out} {l0 l1 : Option AV} {L2 : List (Nat × AV)} {St : List AV} {S : SS} : ev c 217 44 [l0, l1] L2 St S = ev c 217 45 [l0, l1] L2 (aI 1 :: St) S := ev_go i217_44 rfl
theorem i217_45 : insAt 217 45 = some (.isub, 1, (0, 0, 0, 0), 0) := rfl
theorem s217_45 {c : Nat → List AV → SS → Option Out} {l0 l1 : Option AV} {x y : Int32} {L2 : List (Nat × AV)} {St : List AV} {S : SS} : ev c 217 45 [l0, l1] L2 (aI y :: aI x :: St) S = ev c 217 46 [l0, l1] L2 (aI (x - y) :: St) S := ev_go i217_45 rfl
theorem i217_46 : insAt 217 46 = some (.putfield 35, 3, (12, 8, 0, 0), 372) := rfl
theorem s217_46 {c : Nat → List AV → SS → Option Out} {l0 l1 : Option AV} {j t : Nat} {x : Int32} {L2 : List (Nat × AV)} {St : List AV} {S : SS} : ev c 217 46 [l0, l1] L2 (aI x :: aR (12, j, t) :: St) S = ev c 217 49 [l0, l1] L2 St (setI S.1 (12, j, t) 8 x, S.2) := ev_go i217_46 rfl
theorem i217_49 : insAt 217 49 = some (.aload_n 0, 1, (0, 0, 0, 0), 0) := rfl
theorem s217_49 {c : Nat → List AV → SS → Option Out} {l1 : Option AV} {o : OId} {L2 : List (Nat × AV)} {St : List AV} {S : SS} : ev c 217 49 [some (aR o), l1] L2 St S = ev c 217 50 [some (aR o), l1] L2 (aR o :: St) S := ev_go i217_49 rfl
theorem i217_50 : insAt 217 50 = some (.aload_n 0, 1, (0, 0, 0, 0), 0) := rfl
theorem s217_50 {c : Nat → List AV → SS → Option Out} {l1 : Option AV} {o : OId} {L2 : List (Nat × AV)} {St : List AV} {S : SS} : ev c 217 50 [some (aR o), l1] L2 St S = ev c 217 51 [some (aR o), l1] L2 (aR o :: St) S := ev_go i217_50 rfl
theorem i217_51 : insAt 217 51 = some (.getfield 7, 3, (12, 0, 0, 0), 364) := rfl
theorem s217_51 {c : Nat → List AV → SS → Option Out} {l0 l1 : Option AV} {j t : Nat} {L2 : List (Nat × AV)} {St : List AV} {S : SS} : ev c 217 51 [l0, l1] L2 (aR (12, j, t) :: St) S = ev c 217 54 [l0, l1] L2 (S.2.2.1 (12, j, t) 0 :: St) S := ev_go i217_51 rfl
theorem i217_54 : insAt 217 54 = some (.iconst 0, 1, (0, 0, 0, 0), 0) := rfl
theorem s217_54 {c : Nat → List AV → SS → Option Out} {l0 l1 : Option AV} {L2 : List (Nat × AV)} {St : List AV} {S : SS} : ev c 217 54 [l0, l1] L2 St S = ev c 217 55 [l0, l1] L2 (aI 0 :: St) S := ev_go i217_54 rfl
theorem i217_55 : insAt 217 55 = some (.aload_n 0, 1, (0, 0, 0, 0), 0) := rfl
theorem s217_55 {c : Nat → List AV → SS → Option Out} {l1 : Option AV} {o : OId} {L2 : List (Nat × AV)} {St : List AV} {S : SS} : ev c 217 55 [some (aR o), l1] L2 St S = ev c 217 56 [some (aR o), l1] L2 (aR o :: St) S := ev_go i217_55 rfl
theorem i217_56 : insAt 217 56 = some (.getfield 16, 3, (12, 2, 0, 0), 366) := rfl
theorem s217_56 {c : Nat → List AV → SS → Option Out} {l0 l1 : Option AV} {j t : Nat} {L2 : List (Nat × AV)} {St : List AV} {S : SS} : ev c 217 56 [l0, l1] L2 (aR (12, j, t) :: St) S = ev c 217 59 [l0, l1] L2 (S.2.2.1 (12, j, t) 2 :: St) S := ev_go i217_56 rfl
theorem i217_59 : insAt 217 59 = some (.bipush 106, 2, (0, 0, 0, 0), 0) := rfl
theorem s217_59 {c : Nat → List AV → SS → Option Out} {l0 l1 : Option AV} {L2 : List (Nat × AV)} {St : List AV} {S : SS} : ev c 217 59 [l0, l1] L2 St S = ev c 217 61 [l0, l1] L2 (aI 106 :: St) S := ev_go i217_59 rfl
theorem i217_61 : insAt 217 61 = some (.aload_n 0, 1, (0, 0, 0, 0), 0) := rfl
theorem s217_61 {c : Nat → List AV → SS → Option Out} {l1 : Option AV} {o : OId} {L2 : List (Nat × AV)} {St : List AV} {S : SS} : ev c 217 61 [some (aR o), l1] L2 St S = ev c 217 62 [some (aR o), l1] L2 (aR o :: St) S := ev_go i217_61 rfl
theorem i217_62 : insAt 217 62 = some (.getfield 35, 3, (12, 8, 0, 0), 372) := rfl
theorem s217_62 {c : Nat → List AV → SS → Option Out} {l0 l1 : Option AV} {j t : Nat} {L2 : List (Nat × AV)} {St : List AV} {S : SS} : ev c 217 62 [l0, l1] L2 (aR (12, j, t) :: St) S = ev c 217 65 [l0, l1] L2 (aI (S.1 (12, j, t) 8) :: St) S := ev_go i217_62 rfl
theorem i217_65 : insAt 217 65 = some (.imul, 1, (0, 0, 0, 0), 0) := rfl
theorem s217_65 {c : Nat → List AV → SS → Option Out} {l0 l1 : Option AV} {x y : Int32} {L2 : List (Nat × AV)} {St : List AV} {S : SS} : ev c 217 65 [l0, l1] L2 (aI y :: aI x :: St) S = ev c 217 66 [l0, l1] L2 (aI (x * y) :: St) S := ev_go i217_65 rfl
theorem i217_66 : insAt 217 66 = some (.invokevirtual 71, 3, (218, 4, 2, 12), 385) := rfl
theorem s217_66 {c : Nat → List AV → SS → Option Out} {l0 l1 : Option AV} {a0 : OId} {a1 : Int32} {a2 : OId} {a3 : Int32} {j t : Nat} {L2 : List (Nat × AV)} {S : SS} : ev c 217 66 [l0, l1] L2 [aI a3, aR a2, aI a1, aR a0, aR (12, j, t)] S = ck (c 218 [aR (12, j, t), aR a0, aI a1, aR a2, aI a3] S) (fun v S' => ev c 217 69 [l0, l1] L2 (v.toList ++ []) S') := ev_call i217_66 rfl
theorem i217_69 : insAt 217 69 = some (.aload_n 0, 1, (0, 0, 0, 0), 0) := rfl
theorem s217_69 {c : Nat → List AV → SS → Option Out} {l1 : Option AV} {o : OId} {L2 : List (Nat × AV)} {St : List AV} {S : SS} : ev c 217 69 [some (aR o), l1] L2 St S = ev c 217 70 [some (aR o), l1] L2 (aR o :: St) S := ev_go i217_69 rfl
theorem i217_70 : insAt 217 70 = some (.dup, 1, (0, 0, 0, 0), 0) := rfl
theorem s217_70 {c : Nat → List AV → SS → Option Out} {l0 l1 : Option AV} {x : OId} {L2 : List (Nat × AV)} {St : List AV} {S : SS} : ev c 217 70 [l0, l1] L2 (aR x :: St) S = ev c 217 71 [l0, l1] L2 (aR x :: aR x :: St) S := ev_go i217_70 rfl
theorem i217_71 : insAt 217 71 = some (.getfield 35, 3, (12, 8, 0, 0), 372) := rfl
theorem s217_71 {c : Nat → List AV → SS → Option Out} {l0 l1 : Option AV} {j t : Nat} {L2 : List (Nat × AV)} {St : List AV} {S : SS} : ev c 217 71 [l0, l1] L2 (aR (12, j, t) :: St) S = ev c 217 74 [l0, l1] L2 (aI (S.1 (12, j, t) 8) :: St) S := ev_go i217_71 rfl
theorem i217_74 : insAt 217 74 = some (.iconst 1, 1, (0, 0, 0, 0), 0) := rfl
theorem s217_74 {c : Nat → List AV → SS → Option Out} {l0 l1 : Option AV} {L2 : List (Nat × AV)} {St : List AV} {S : SS} : ev c 217 74 [l0, l1] L2 St S = ev c 217 75 [l0, l1] L2 (aI 1 :: St) S := ev_go i217_74 rfl
theorem i217_75 : insAt 217 75 = some (.iadd, 1, (0, 0, 0, 0), 0) := rfl
theorem s217_75 {c : Nat → List AV → SS → Option Out} {l0 l1 : Option AV} {x y : Int32} {L2 : List (Nat × AV)} {St : List AV} {S : SS} : ev c 217 75 [l0, l1] L2 (aI y :: aI x :: St) S = ev c 217 76 [l0, l1] L2 (aI (x + y) :: St) S := ev_go i217_75 rfl
theorem i217_76 : insAt 217 76 = some (.putfield 35, 3, (12, 8, 0, 0), 372) := rfl
theorem s217_76 {c : Nat → List AV → SS → Option Out} {l0 l1 : Option AV} {j t : Nat} {x : Int32} {L2 : List (Nat × AV)} {St : List AV} {S : SS} : ev c 217 76 [l0, l1] L2 (aI x :: aR (12, j, t) :: St) S = ev c 217 79 [l0, l1] L2 St (setI S.1 (12, j, t) 8 x, S.2) := ev_go i217_76 rfl
theorem i217_79 : insAt 217 79 = some (.return_, 1, (0, 0, 0, 0), 0) := rfl
theorem s217_79 {c : Nat → List AV → SS → Option Out} {l0 l1 : Option AV} {L2 : List (Nat × AV)} {S : SS} : ev c 217 79 [l0, l1] L2 [] S = some (.inl none, S) := ev_end i217_79 rfl
theorem m217 {d : Nat} {o : OId} {S : SS} : evm (d + 1) 217 [aR o] S = ev (evm d) 217 0 [some (aR o), none] [] [] S := evm_s (n := 2) rfl (Nat.le_of_ble_eq_true rfl) rfl rfl
/-! FrequencyOfficeModel.copies([II[II)V -/
theorem i218_0 : insAt 218 0 = some (.iconst 0, 1, (0, 0, 0, 0), 0) := rfl
theorem s218_0 {c : Nat → List AV → SS → Option Out} {l0 l1 l2 l3 l4 l5 : Option AV} {L2 : List (Nat × AV)} {St : List AV} {S : SS} : ev c 218 0 [l0, l1, l2, l3, l4, l5] L2 St S = ev c 218 1 [l0, l1, l2, l3, l4, l5] L2 (aI 0 :: St) S := ev_go i218_0 rfl
theorem i218_1 : insAt 218 1 = some (.istore 5, 2, (0, 0, 0, 0), 0) := rfl
theorem s218_1 {c : Nat → List AV → SS → Option Out} {l0 l1 l2 l3 l4 l5 : Option AV} {x : Int32} {L2 : List (Nat × AV)} {St : List AV} {S : SS} : ev c 218 1 [l0, l1, l2, l3, l4, l5] L2 (aI x :: St) S = ev c 218 3 [l0, l1, l2, l3, l4, some (aI x)] (kil L2 5) St S := ev_go i218_1 rfl
theorem i218_3 : insAt 218 3 = some (.iload 5, 2, (0, 0, 0, 0), 0) := rfl
theorem s218_3 {c : Nat → List AV → SS → Option Out} {l0 l1 l2 l3 l4 : Option AV} {x : Int32} {L2 : List (Nat × AV)} {St : List AV} {S : SS} : ev c 218 3 [l0, l1, l2, l3, l4, some (aI x)] L2 St S = ev c 218 5 [l0, l1, l2, l3, l4, some (aI x)] L2 (aI x :: St) S := ev_go i218_3 rfl
theorem i218_5 : insAt 218 5 = some (.bipush 106, 2, (0, 0, 0, 0), 0) := rfl
theorem s218_5 {c : Nat → List AV → SS → Option Out} {l0 l1 l2 l3 l4 l5 : Option AV} {L2 : List (Nat × AV)} {St : List AV} {S : SS} : ev c 218 5 [l0, l1, l2, l3, l4, l5] L2 St S = ev c 218 7 [l0, l1, l2, l3, l4, l5] L2 (aI 106 :: St) S := ev_go i218_5 rfl
theorem i218_7 : insAt 218 7 = some (.if_icmp .ge 22, 3, (0, 0, 0, 0), 0) := rfl
theorem s218_7 {c : Nat → List AV → SS → Option Out} {l0 l1 l2 l3 l4 l5 : Option AV} {x y : Int32} {L2 : List (Nat × AV)} {St : List AV} {S : SS} : ev c 218 7 [l0, l1, l2, l3, l4, l5] L2 (aI y :: aI x :: St) S = if y ≤ x then ev c 218 29 [l0, l1, l2, l3, l4, l5] L2 St S else ev c 218 10 [l0, l1, l2, l3, l4, l5] L2 St S := ev_br i218_7 rfl
theorem i218_10 : insAt 218 10 = some (.aload_n 3, 1, (0, 0, 0, 0), 0) := rfl
theorem s218_10 {c : Nat → List AV → SS → Option Out} {l0 l1 l2 l4 l5 : Option AV} {o : OId} {L2 : List (Nat × AV)} {St : List AV} {S : SS} : ev c 218 10 [l0, l1, l2, some (aR o), l4, l5] L2 St S = ev c 218 11 [l0, l1, l2, some (aR o), l4, l5] L2 (aR o :: St) S := ev_go i218_10 rfl
theorem i218_11 : insAt 218 11 = some (.iload 4, 2, (0, 0, 0, 0), 0) := rfl
theorem s218_11 {c : Nat → List AV → SS → Option Out} {l0 l1 l2 l3 l5 : Option AV} {x : Int32} {L2 : List (Nat × AV)} {St : List AV} {S : SS} : ev c 218 11 [l0, l1, l2, l3, some (aI x), l5] L2 St S = ev c 218 13 [l0, l1, l2, l3, some (aI x), l5] L2 (aI x :: St) S := ev_go i218_11 rfl
theorem i218_13 : insAt 218 13 = some (.iload 5, 2, (0, 0, 0, 0), 0) := rfl
theorem s218_13 {c : Nat → List AV → SS → Option Out} {l0 l1 l2 l3 l4 : Option AV} {x : Int32} {L2 : List (Nat × AV)} {St : List AV} {S : SS} : ev c 218 13 [l0, l1, l2, l3, l4, some (aI x)] L2 St S = ev c 218 15 [l0, l1, l2, l3, l4, some (aI x)] L2 (aI x :: St) S := ev_go i218_13 rfl
theorem i218_15 : insAt 218 15 = some (.iadd, 1, (0, 0, 0, 0), 0) := rfl
theorem s218_15 {c : Nat → List AV → SS → Option Out} {l0 l1 l2 l3 l4 l5 : Option AV} {x y : Int32} {L2 : List (Nat × AV)} {St : List AV} {S : SS} : ev c 218 15 [l0, l1, l2, l3, l4, l5] L2 (aI y :: aI x :: St) S = ev c 218 16 [l0, l1, l2, l3, l4, l5] L2 (aI (x + y) :: St) S := ev_go i218_15 rfl
theorem i218_16 : insAt 218 16 = some (.aload_n 1, 1, (0, 0, 0, 0), 0) := rfl
theorem s218_16 {c : Nat → List AV → SS → Option Out} {l0 l2 l3 l4 l5 : Option AV} {o : OId} {L2 : List (Nat × AV)} {St : List AV} {S : SS} : ev c 218 16 [l0, some (aR o), l2, l3, l4, l5] L2 St S = ev c 218 17 [l0, some (aR o), l2, l3, l4, l5] L2 (aR o :: St) S := ev_go i218_16 rfl
theorem i218_17 : insAt 218 17 = some (.iload_n 2, 1, (0, 0, 0, 0), 0) := rfl
theorem s218_17 {c : Nat → List AV → SS → Option Out} {l0 l1 l3 l4 l5 : Option AV} {x : Int32} {L2 : List (Nat × AV)} {St : List AV} {S : SS} : ev c 218 17 [l0, l1, some (aI x), l3, l4, l5] L2 St S = ev c 218 18 [l0, l1, some (aI x), l3, l4, l5] L2 (aI x :: St) S := ev_go i218_17 rfl
theorem i218_18 : insAt 218 18 = some (.iload 5, 2, (0, 0, 0, 0), 0) := rfl
theorem s218_18 {c : Nat → List AV → SS → Option Out} {l0 l1 l2 l3 l4 : Option AV} {x : Int32} {L2 : List (Nat × AV)} {St : List AV} {S : SS} : ev c 218 18 [l0, l1, l2, l3, l4, some (aI x)] L2 St S = ev c 218 20 [l0, l1, l2, l3, l4, some (aI x)] L2 (aI x :: St) S := ev_go i218_18 rfl
theorem i218_20 : insAt 218 20 = some (.iadd, 1, (0, 0, 0, 0), 0) := rfl
theorem s218_20 {c : Nat → List AV → SS → Option Out} {l0 l1 l2 l3 l4 l5 : Option AV} {x y : Int32} {L2 : List (Nat × AV)} {St : List AV} {S : SS} : ev c 218 20 [l0, l1, l2, l3, l4, l5] L2 (aI y :: aI x :: St) S = ev c 218 21 [l0, l1, l2, l3, l4, l5] L2 (aI (x + y) :: St) S := ev_go i218_20 rfl
theorem i218_21 : insAt 218 21 = some (.iaload, 1, (0, 0, 0, 0), 0) := rfl
theorem s218_21 {c : Nat → List AV → SS → Option Out} {l0 l1 l2 l3 l4 l5 : Option AV} {i : Int32} {o : OId} {L2 : List (Nat × AV)} {St : List AV} {S : SS} : ev c 218 21 [l0, l1, l2, l3, l4, l5] L2 (aI i :: aR o :: St) S = kI o i (ev c 218 22 [l0, l1, l2, l3, l4, l5] L2 (aI (agI S o i.toNatClampNeg) :: St) S) := ev_iaload i218_21
theorem i218_22 : insAt 218 22 = some (.iastore, 1, (0, 0, 0, 0), 0) := rfl
theorem s218_22 {c : Nat → List AV → SS → Option Out} {l0 l1 l2 l3 l4 l5 : Option AV} {x i : Int32} {o : OId} {L2 : List (Nat × AV)} {St : List AV} {S : SS} : ev c 218 22 [l0, l1, l2, l3, l4, l5] L2 (aI x :: aI i :: aR o :: St) S = kIw o i (ev c 218 23 [l0, l1, l2, l3, l4, l5] L2 St (setI S.1 o i.toNatClampNeg x, S.2)) := ev_iastore i218_22
theorem i218_23 : insAt 218 23 = some (.iinc 5 1, 3, (0, 0, 0, 0), 0) := rfl
theorem s218_23 {c : Nat → List AV → SS → Option Out} {l0 l1 l2 l3 l4 : Option AV} {x : Int32} {L2 : List (Nat × AV)} {St : List AV} {S : SS} : ev c 218 23 [l0, l1, l2, l3, l4, some (aI x)] L2 St S = ev c 218 26 [l0, l1, l2, l3, l4, some (aI (x + 1))] (kil L2 5) St S := ev_go i218_23 rfl
theorem i218_26 : insAt 218 26 = some (.goto (-23), 3, (0, 0, 0, 0), 0) := rfl
theorem s218_26 {c : Nat → List AV → SS → Option Out} {l0 l1 l2 l3 l4 l5 : Option AV} {L2 : List (Nat × AV)} {St : List AV} {S : SS} : ev c 218 26 [l0, l1, l2, l3, l4, l5] L2 St S = ev c 218 3 [l0, l1, l2, l3, l4, l5] L2 St S := ev_go i218_26 rfl
theorem i218_29 : insAt 218 29 = some (.return_, 1, (0, 0, 0, 0), 0) := rfl
theorem s218_29 {c : Nat → List AV → SS → Option Out} {l0 l1 l2 l3 l4 l5 : Option AV} {L2 : List (Nat × AV)} {S : SS} : ev c 218 29 [l0, l1, l2, l3, l4, l5] L2 [] S = some (.inl none, S) := ev_end i218_29 rfl
theorem m218 {d : Nat} {o : OId} {a0 : OId} {a1 : Int32} {a2 : OId} {a3 : Int32} {S : SS} : evm (d + 1) 218 [aR o, aR a0, aI a1, aR a2, aI a3] S = ev (evm d) 218 0 [some (aR o), some (aR a0), some (aI a1), some (aR a2), some (aI a3), none] [] [] S := evm_s (n := 6) rfl (Nat.le_of_ble_eq_true rfl) rfl rfl
/-! FrequencyOfficeModel.nearRadius()I -/
theorem i219_0 : insAt 219 0 = some (.aload_n 0, 1, (0, 0, 0, 0), 0) := rfl
theorem s219_0 {c : Nat → List AV → SS → Option Out} {o : OId} {L2 : List (Nat × AV)} {St : List AV} {S : SS} : ev c 219 0 [some (aR o)] L2 St S = ev c 219 1 [some (aR o)] L2 (aR o :: St) S := ev_go i219_0 rfl
theorem i219_1 : insAt 219 1 = some (.aload_n 0, 1, (0, 0, 0, 0), 0) := rfl
theorem s219_1 {c : Nat → List AV → SS → Option Out} {o : OId} {L2 : List (Nat × AV)} {St : List AV} {S : SS} : ev c 219 1 [some (aR o)] L2 St S = ev c 219 2 [some (aR o)] L2 (aR o :: St) S := ev_go i219_1 rfl
theorem i219_2 : insAt 219 2 = some (.getfield 7, 3, (12, 0, 0, 0), 364) := rfl
theorem s219_2 {c : Nat → List AV → SS → Option Out} {l0 : Option AV} {j t : Nat} {L2 : List (Nat × AV)} {St : List AV} {S : SS} : ev c 219 2 [l0] L2 (aR (12, j, t) :: St) S = ev c 219 5 [l0] L2 (S.2.2.1 (12, j, t) 0 :: St) S := ev_go i219_2 rfl
theorem i219_5 : insAt 219 5 = some (.iconst 0, 1, (0, 0, 0, 0), 0) := rfl
theorem s219_5 {c : Nat → List AV → SS → Option Out} {l0 : Option AV} {L2 : List (Nat × AV)} {St : List AV} {S : SS} : ev c 219 5 [l0] L2 St S = ev c 219 6 [l0] L2 (aI 0 :: St) S := ev_go i219_5 rfl
theorem i219_6 : insAt 219 6 = some (.iaload, 1, (0, 0, 0, 0), 0) := rfl
theorem s219_6 {c : Nat → List AV → SS → Option Out} {l0 : Option AV} {i : Int32} {o : OId} {L2 : List (Nat × AV)} {St : List AV} {S : SS} : ev c 219 6 [l0] L2 (aI i :: aR o :: St) S = kI o i (ev c 219 7 [l0] L2 (aI (agI S o i.toNatClampNeg) :: St) S) := ev_iaload i219_6
theorem i219_7 : insAt 219 7 = some (.invokevirtual 89, 3, (220, 1, 2, 12), 386) := rfl
theorem s219_7 {c : Nat → List AV → SS → Option Out} {l0 : Option AV} {a0 : Int32} {j t : Nat} {L2 : List (Nat × AV)} {S : SS} : ev c 219 7 [l0] L2 [aI a0, aR (12, j, t)] S = ck (c 220 [aR (12, j, t), aI a0] S) (fun v S' => ev c 219 10 [l0] L2 (v.toList ++ []) S') := ev_call i219_7 rfl
theorem i219_10 : insAt 219 10 = some (.ireturn, 1, (0, 0, 0, 0), 0) := rfl
theorem s219_10 {c : Nat → List AV → SS → Option Out} {l0 : Option AV} {x : Int32} {L2 : List (Nat × AV)} {S : SS} : ev c 219 10 [l0] L2 [aI x] S = some (.inl (some (aI x)), S) := ev_end i219_10 rfl
theorem m219 {d : Nat} {o : OId} {S : SS} : evm (d + 1) 219 [aR o] S = ev (evm d) 219 0 [some (aR o)] [] [] S := evm_s (n := 1) rfl (Nat.le_of_ble_eq_true rfl) rfl rfl
/-! FrequencyOfficeModel.plain(I)I -/
theorem i220_0 : insAt 220 0 = some (.aload_n 0, 1, (0, 0, 0, 0), 0) := rfl
theorem s220_0 {c : Nat → List AV → SS → Option Out} {l1 : Option AV} {o : OId} {L2 : List (Nat × AV)} {St : List AV} {S : SS} : ev c 220 0 [some (aR o), l1] L2 St S = ev c 220 1 [some (aR o), l1] L2 (aR o :: St) S := ev_go i220_0 rfl
theorem i220_1 : insAt 220 1 = some (.iconst 0, 1, (0, 0, 0, 0), 0) := rfl
theorem s220_1 {c : Nat → List AV → SS → Option Out} {l0 l1 : Option AV} {L2 : List (Nat × AV)} {St : List AV} {S : SS} : ev c 220 1 [l0, l1] L2 St S = ev c 220 2 [l0, l1] L2 (aI 0 :: St) S := ev_go i220_1 rfl
theorem i220_2 : insAt 220 2 = some (.putfield 31, 3, (12, 7, 0, 0), 371) := rfl
theorem s220_2 {c : Nat → List AV → SS → Option Out} {l0 l1 : Option AV} {j t : Nat} {x : Int32} {L2 : List (Nat × AV)} {St : List AV} {S : SS} : ev c 220 2 [l0, l1] L2 (aI x :: aR (12, j, t) :: St) S = ev c 220 5 [l0, l1] L2 St (setI S.1 (12, j, t) 7 x, S.2) := ev_go i220_2 rfl
theorem i220_5 : insAt 220 5 = some (.iload_n 1, 1, (0, 0, 0, 0), 0) := rfl
theorem s220_5 {c : Nat → List AV → SS → Option Out} {l0 : Option AV} {x : Int32} {L2 : List (Nat × AV)} {St : List AV} {S : SS} : ev c 220 5 [l0, some (aI x)] L2 St S = ev c 220 6 [l0, some (aI x)] L2 (aI x :: St) S := ev_go i220_5 rfl
theorem i220_6 : insAt 220 6 = some (.ireturn, 1, (0, 0, 0, 0), 0) := rfl
theorem s220_6 {c : Nat → List AV → SS → Option Out} {l0 l1 : Option AV} {x : Int32} {L2 : List (Nat × AV)} {S : SS} : ev c 220 6 [l0, l1] L2 [aI x] S = some (.inl (some (aI x)), S) := ev_end i220_6 rfl
theorem m220 {d : Nat} {o : OId} {a0 : Int32} {S : SS} : evm (d + 1) 220 [aR o, aI a0] S = ev (evm d) 220 0 [some (aR o), some (aI a0)] [] [] S := evm_s (n := 2) rfl (Nat.le_of_ble_eq_true rfl) rfl rfl
/-! FrequencyOfficeModel.middleRadius()I -/
theorem i221_0 : insAt 221 0 = some (.aload_n 0, 1, (0, 0, 0, 0), 0) := rfl
theorem s221_0 {c : Nat → List AV → SS → Option Out} {o : OId} {L2 : List (Nat × AV)} {St : List AV} {S : SS} : ev c 221 0 [some (aR o)] L2 St S = ev c 221 1 [some (aR o)] L2 (aR o :: St) S := ev_go i221_0 rfl
theorem i221_1 : insAt 221 1 = some (.aload_n 0, 1, (0, 0, 0, 0), 0) := rfl
theorem s221_1 {c : Nat → List AV → SS → Option Out} {o : OId} {L2 : List (Nat × AV)} {St : List AV} {S : SS} : ev c 221 1 [some (aR o)] L2 St S = ev c 221 2 [some (aR o)] L2 (aR o :: St) S := ev_go i221_1 rfl
theorem i221_2 : insAt 221 2 = some (.getfield 7, 3, (12, 0, 0, 0), 364) := rfl
theorem s221_2 {c : Nat → List AV → SS → Option Out} {l0 : Option AV} {j t : Nat} {L2 : List (Nat × AV)} {St : List AV} {S : SS} : ev c 221 2 [l0] L2 (aR (12, j, t) :: St) S = ev c 221 5 [l0] L2 (S.2.2.1 (12, j, t) 0 :: St) S := ev_go i221_2 rfl
theorem i221_5 : insAt 221 5 = some (.iconst 1, 1, (0, 0, 0, 0), 0) := rfl
theorem s221_5 {c : Nat → List AV → SS → Option Out} {l0 : Option AV} {L2 : List (Nat × AV)} {St : List AV} {S : SS} : ev c 221 5 [l0] L2 St S = ev c 221 6 [l0] L2 (aI 1 :: St) S := ev_go i221_5 rfl
theorem i221_6 : insAt 221 6 = some (.iaload, 1, (0, 0, 0, 0), 0) := rfl
theorem s221_6 {c : Nat → List AV → SS → Option Out} {l0 : Option AV} {i : Int32} {o : OId} {L2 : List (Nat × AV)} {St : List AV} {S : SS} : ev c 221 6 [l0] L2 (aI i :: aR o :: St) S = kI o i (ev c 221 7 [l0] L2 (aI (agI S o i.toNatClampNeg) :: St) S) := ev_iaload i221_6
theorem i221_7 : insAt 221 7 = some (.invokevirtual 89, 3, (220, 1, 2, 12), 386) := rfl
theorem s221_7 {c : Nat → List AV → SS → Option Out} {l0 : Option AV} {a0 : Int32} {j t : Nat} {L2 : List (Nat × AV)} {S : SS} : ev c 221 7 [l0] L2 [aI a0, aR (12, j, t)] S = ck (c 220 [aR (12, j, t), aI a0] S) (fun v S' => ev c 221 10 [l0] L2 (v.toList ++ []) S') := ev_call i221_7 rfl
theorem i221_10 : insAt 221 10 = some (.ireturn, 1, (0, 0, 0, 0), 0) := rfl
theorem s221_10 {c : Nat → List AV → SS → Option Out} {l0 : Option AV} {x : Int32} {L2 : List (Nat × AV)} {S : SS} : ev c 221 10 [l0] L2 [aI x] S = some (.inl (some (aI x)), S) := ev_end i221_10 rfl
theorem m221 {d : Nat} {o : OId} {S : SS} : evm (d + 1) 221 [aR o] S = ev (evm d) 221 0 [some (aR o)] [] [] S := evm_s (n := 1) rfl (Nat.le_of_ble_eq_true rfl) rfl rfl
/-! FrequencyOfficeModel.farRadius()I -/
theorem i222_0 : insAt 222 0 = some (.aload_n 0, 1, (0, 0, 0, 0), 0) := rfl
theorem s222_0 {c : Nat → List AV → SS → Option Out} {o : OId} {L2 : List (Nat × AV)} {St : List AV} {S : SS} : ev c 222 0 [some (aR o)] L2 St S = ev c 222 1 [some (aR o)] L2 (aR o :: St) S := ev_go i222_0 rfl
theorem i222_1 : insAt 222 1 = some (.aload_n 0, 1, (0, 0, 0, 0), 0) := rfl
theorem s222_1 {c : Nat → List AV → SS → Option Out} {o : OId} {L2 : List (Nat × AV)} {St : List AV} {S : SS} : ev c 222 1 [some (aR o)] L2 St S = ev c 222 2 [some (aR o)] L2 (aR o :: St) S := ev_go i222_1 rfl
theorem i222_2 : insAt 222 2 = some (.getfield 7, 3, (12, 0, 0, 0), 364) := rfl
theorem s222_2 {c : Nat → List AV → SS → Option Out} {l0 : Option AV} {j t : Nat} {L2 : List (Nat × AV)} {St : List AV} {S : SS} : ev c 222 2 [l0] L2 (aR (12, j, t) :: St) S = ev c 222 5 [l0] L2 (S.2.2.1 (12, j, t) 0 :: St) S := ev_go i222_2 rfl
theorem i222_5 : insAt 222 5 = some (.iconst 2, 1, (0, 0, 0, 0), 0) := rfl
theorem s222_5 {c : Nat → List AV → SS → Option Out} {l0 : Option AV} {L2 : List (Nat × AV)} {St : List AV} {S : SS} : ev c 222 5 [l0] L2 St S = ev c 222 6 [l0] L2 (aI 2 :: St) S := ev_go i222_5 rfl
theorem i222_6 : insAt 222 6 = some (.iaload, 1, (0, 0, 0, 0), 0) := rfl
theorem s222_6 {c : Nat → List AV → SS → Option Out} {l0 : Option AV} {i : Int32} {o : OId} {L2 : List (Nat × AV)} {St : List AV} {S : SS} : ev c 222 6 [l0] L2 (aI i :: aR o :: St) S = kI o i (ev c 222 7 [l0] L2 (aI (agI S o i.toNatClampNeg) :: St) S) := ev_iaload i222_6
theorem i222_7 : insAt 222 7 = some (.invokevirtual 89, 3, (220, 1, 2, 12), 386) := rfl
theorem s222_7 {c : Nat → List AV → SS → Option Out} {l0 : Option AV} {a0 : Int32} {j t : Nat} {L2 : List (Nat × AV)} {S : SS} : ev c 222 7 [l0] L2 [aI a0, aR (12, j, t)] S = ck (c 220 [aR (12, j, t), aI a0] S) (fun v S' => ev c 222 10 [l0] L2 (v.toList ++ []) S') := ev_call i222_7 rfl
theorem i222_10 : insAt 222 10 = some (.ireturn, 1, (0, 0, 0, 0), 0) := rfl
theorem s222_10 {c : Nat → List AV → SS → Option Out} {l0 : Option AV} {x : Int32} {L2 : List (Nat × AV)} {S : SS} : ev c 222 10 [l0] L2 [aI x] S = some (.inl (some (aI x)), S) := ev_end i222_10 rfl
theorem m222 {d : Nat} {o : OId} {S : SS} : evm (d + 1) 222 [aR o] S = ev (evm d) 222 0 [some (aR o)] [] [] S := evm_s (n := 1) rfl (Nat.le_of_ble_eq_true rfl) rfl rfl
/-! FrequencyOfficeModel.license(III)I -/
theorem i223_0 : insAt 223 0 = some (.aload_n 0, 1, (0, 0, 0, 0), 0) := rfl
theorem s223_0 {c : Nat → List AV → SS → Option Out} {l1 l2 l3 l4 l5 : Option AV} {o : OId} {L2 : List (Nat × AV)} {St : List AV} {S : SS} : ev c 223 0 [some (aR o), l1, l2, l3, l4, l5] L2 St S = ev c 223 1 [some (aR o), l1, l2, l3, l4, l5] L2 (aR o :: St) S := ev_go i223_0 rfl
theorem i223_1 : insAt 223 1 = some (.iload_n 1, 1, (0, 0, 0, 0), 0) := rfl
theorem s223_1 {c : Nat → List AV → SS → Option Out} {l0 l2 l3 l4 l5 : Option AV} {x : Int32} {L2 : List (Nat × AV)} {St : List AV} {S : SS} : ev c 223 1 [l0, some (aI x), l2, l3, l4, l5] L2 St S = ev c 223 2 [l0, some (aI x), l2, l3, l4, l5] L2 (aI x :: St) S := ev_go i223_1 rfl
theorem i223_2 : insAt 223 2 = some (.iload_n 2, 1, (0, 0, 0, 0), 0) := rfl
theorem s223_2 {c : Nat → List AV → SS → Option Out} {l0 l1 l3 l4 l5 : Option AV} {x : Int32} {L2 : List (Nat × AV)} {St : List AV} {S : SS} : ev c 223 2 [l0, l1, some (aI x), l3, l4, l5] L2 St S = ev c 223 3 [l0, l1, some (aI x), l3, l4, l5] L2 (aI x :: St) S := ev_go i223_2 rfl
theorem i223_3 : insAt 223 3 = some (.invokestatic 158, 3, (224, 2, 0, 0), 387) := rfl
theorem s223_3 {c : Nat → List AV → SS → Option Out} {l0 l1 l2 l3 l4 l5 : Option AV} {t0 : AV} {a0 : Int32} {a1 : Int32} {L2 : List (Nat × AV)} {S : SS} : ev c 223 3 [l0, l1, l2, l3, l4, l5] L2 [aI a1, aI a0, t0] S = ck (c 224 [aI a0, aI a1] S) (fun v S' => ev c 223 6 [l0, l1, l2, l3, l4, l5] L2 (v.toList ++ [t0]) S') := ev_call i223_3 rfl
theorem i223_6 : insAt 223 6 = some (.ifCond .eq 14, 3, (0, 0, 0, 0), 0) := rfl
theorem s223_6 {c : Nat → List AV → SS → Option Out} {l0 l1 l2 l3 l4 l5 : Option AV} {x : Int32} {L2 : List (Nat × AV)} {St : List AV} {S : SS} : ev c 223 6 [l0, l1, l2, l3, l4, l5] L2 (aI x :: St) S = if x = 0 then ev c 223 20 [l0, l1, l2, l3, l4, l5] L2 St S else ev c 223 9 [l0, l1, l2, l3, l4, l5] L2 St S := ev_br i223_6 rfl
theorem i223_9 : insAt 223 9 = some (.iload_n 3, 1, (0, 0, 0, 0), 0) := rfl
theorem s223_9 {c : Nat → List AV → SS → Option Out} {l0 l1 l2 l4 l5 : Option AV} {x : Int32} {L2 : List (Nat × AV)} {St : List AV} {S : SS} : ev c 223 9 [l0, l1, l2, some (aI x), l4, l5] L2 St S = ev c 223 10 [l0, l1, l2, some (aI x), l4, l5] L2 (aI x :: St) S := ev_go i223_9 rfl
theorem i223_10 : insAt 223 10 = some (.iconst 1, 1, (0, 0, 0, 0), 0) := rfl
theorem s223_10 {c : Nat → List AV → SS → Option Out} {l0 l1 l2 l3 l4 l5 : Option AV} {L2 : List (Nat × AV)} {St : List AV} {S : SS} : ev c 223 10 [l0, l1, l2, l3, l4, l5] L2 St S = ev c 223 11 [l0, l1, l2, l3, l4, l5] L2 (aI 1 :: St) S := ev_go i223_10 rfl
theorem i223_11 : insAt 223 11 = some (.sipush 365, 3, (0, 0, 0, 0), 0) := rfl
theorem s223_11 {c : Nat → List AV → SS → Option Out} {l0 l1 l2 l3 l4 l5 : Option AV} {L2 : List (Nat × AV)} {St : List AV} {S : SS} : ev c 223 11 [l0, l1, l2, l3, l4, l5] L2 St S = ev c 223 14 [l0, l1, l2, l3, l4, l5] L2 (aI 365 :: St) S := ev_go i223_11 rfl
theorem i223_14 : insAt 223 14 = some (.invokestatic 154, 3, (225, 3, 0, 0), 388) := rfl
theorem s223_14 {c : Nat → List AV → SS → Option Out} {l0 l1 l2 l3 l4 l5 : Option AV} {t0 : AV} {a0 : Int32} {a1 : Int32} {a2 : Int32} {L2 : List (Nat × AV)} {S : SS} : ev c 223 14 [l0, l1, l2, l3, l4, l5] L2 [aI a2, aI a1, aI a0, t0] S = ck (c 225 [aI a0, aI a1, aI a2] S) (fun v S' => ev c 223 17 [l0, l1, l2, l3, l4, l5] L2 (v.toList ++ [t0]) S') := ev_call i223_14 rfl
theorem i223_17 : insAt 223 17 = some (.ifCond .ne 7, 3, (0, 0, 0, 0), 0) := rfl
theorem s223_17 {c : Nat → List AV → SS → Option Out} {l0 l1 l2 l3 l4 l5 : Option AV} {x : Int32} {L2 : List (Nat × AV)} {St : List AV} {S : SS} : ev c 223 17 [l0, l1, l2, l3, l4, l5] L2 (aI x :: St) S = if x = 0 then ev c 223 20 [l0, l1, l2, l3, l4, l5] L2 St S else ev c 223 24 [l0, l1, l2, l3, l4, l5] L2 St S := (ev_br i223_17 rfl).trans (ite_not _ _ _)
theorem i223_20 : insAt 223 20 = some (.iconst 1, 1, (0, 0, 0, 0), 0) := rfl
theorem s223_20 {c : Nat → List AV → SS → Option Out} {l0 l1 l2 l3 l4 l5 : Option AV} {L2 : List (Nat × AV)} {St : List AV} {S : SS} : ev c 223 20 [l0, l1, l2, l3, l4, l5] L2 St S = ev c 223 21 [l0, l1, l2, l3, l4, l5] L2 (aI 1 :: St) S := ev_go i223_20 rfl
theorem i223_21 : insAt 223 21 = some (.goto 20, 3, (0, 0, 0, 0), 0) := rfl
theorem s223_21 {c : Nat → List AV → SS → Option Out} {l0 l1 l2 l3 l4 l5 : Option AV} {L2 : List (Nat × AV)} {St : List AV} {S : SS} : ev c 223 21 [l0, l1, l2, l3, l4, l5] L2 St S = ev c 223 41 [l0, l1, l2, l3, l4, l5] L2 St S := ev_go i223_21 rfl
theorem i223_24 : insAt 223 24 = some (.aload_n 0, 1, (0, 0, 0, 0), 0) := rfl
theorem s223_24 {c : Nat → List AV → SS → Option Out} {l1 l2 l3 l4 l5 : Option AV} {o : OId} {L2 : List (Nat × AV)} {St : List AV} {S : SS} : ev c 223 24 [some (aR o), l1, l2, l3, l4, l5] L2 St S = ev c 223 25 [some (aR o), l1, l2, l3, l4, l5] L2 (aR o :: St) S := ev_go i223_24 rfl
theorem i223_25 : insAt 223 25 = some (.getfield 7, 3, (12, 0, 0, 0), 364) := rfl
theorem s223_25 {c : Nat → List AV → SS → Option Out} {l0 l1 l2 l3 l4 l5 : Option AV} {j t : Nat} {L2 : List (Nat × AV)} {St : List AV} {S : SS} : ev c 223 25 [l0, l1, l2, l3, l4, l5] L2 (aR (12, j, t) :: St) S = ev c 223 28 [l0, l1, l2, l3, l4, l5] L2 (S.2.2.1 (12, j, t) 0 :: St) S := ev_go i223_25 rfl
theorem i223_28 : insAt 223 28 = some (.bipush 7, 2, (0, 0, 0, 0), 0) := rfl
theorem s223_28 {c : Nat → List AV → SS → Option Out} {l0 l1 l2 l3 l4 l5 : Option AV} {L2 : List (Nat × AV)} {St : List AV} {S : SS} : ev c 223 28 [l0, l1, l2, l3, l4, l5] L2 St S = ev c 223 30 [l0, l1, l2, l3, l4, l5] L2 (aI 7 :: St) S := ev_go i223_28 rfl
theorem i223_30 : insAt 223 30 = some (.iaload, 1, (0, 0, 0, 0), 0) := rfl
theorem s223_30 {c : Nat → List AV → SS → Option Out} {l0 l1 l2 l3 l4 l5 : Option AV} {i : Int32} {o : OId} {L2 : List (Nat × AV)} {St : List AV} {S : SS} : ev c 223 30 [l0, l1, l2, l3, l4, l5] L2 (aI i :: aR o :: St) S = kI o i (ev c 223 31 [l0, l1, l2, l3, l4, l5] L2 (aI (agI S o i.toNatClampNeg) :: St) S) := ev_iaload i223_30
theorem i223_31 : insAt 223 31 = some (.bipush 7, 2, (0, 0, 0, 0), 0) := rfl
theorem s223_31 {c : Nat → List AV → SS → Option Out} {l0 l1 l2 l3 l4 l5 : Option AV} {L2 : List (Nat × AV)} {St : List AV} {S : SS} : ev c 223 31 [l0, l1, l2, l3, l4, l5] L2 St S = ev c 223 33 [l0, l1, l2, l3, l4, l5] L2 (aI 7 :: St) S := ev_go i223_31 rfl
theorem i223_33 : insAt 223 33 = some (.if_icmp .ne 7, 3, (0, 0, 0, 0), 0) := rfl
theorem s223_33 {c : Nat → List AV → SS → Option Out} {l0 l1 l2 l3 l4 l5 : Option AV} {x y : Int32} {L2 : List (Nat × AV)} {St : List AV} {S : SS} : ev c 223 33 [l0, l1, l2, l3, l4, l5] L2 (aI y :: aI x :: St) S = if x = y then ev c 223 36 [l0, l1, l2, l3, l4, l5] L2 St S else ev c 223 40 [l0, l1, l2, l3, l4, l5] L2 St S := (ev_br i223_33 rfl).trans (ite_not _ _ _)
theorem i223_36 : insAt 223 36 = some (.iconst 2, 1, (0, 0, 0, 0), 0) := rfl
theorem s223_36 {c : Nat → List AV → SS → Option Out} {l0 l1 l2 l3 l4 l5 : Option AV} {L2 : List (Nat × AV)} {St : List AV} {S : SS} : ev c 223 36 [l0, l1, l2, l3, l4, l5] L2 St S = ev c 223 37 [l0, l1, l2, l3, l4, l5] L2 (aI 2 :: St) S := ev_go i223_36 rfl
theorem i223_37 : insAt 223 37 = some (.goto 4, 3, (0, 0, 0, 0), 0) := rfl
theorem s223_37 {c : Nat → List AV → SS → Option Out} {l0 l1 l2 l3 l4 l5 : Option AV} {L2 : List (Nat × AV)} {St : List AV} {S : SS} : ev c 223 37 [l0, l1, l2, l3, l4, l5] L2 St S = ev c 223 41 [l0, l1, l2, l3, l4, l5] L2 St S := ev_go i223_37 rfl
theorem i223_40 : insAt 223 40 = some (.iconst 0, 1, (0, 0, 0, 0), 0) := rfl
theorem s223_40 {c : Nat → List AV → SS → Option Out} {l0 l1 l2 l3 l4 l5 : Option AV} {L2 : List (Nat × AV)} {St : List AV} {S : SS} : ev c 223 40 [l0, l1, l2, l3, l4, l5] L2 St S = ev c 223 41 [l0, l1, l2, l3, l4, l5] L2 (aI 0 :: St) S := ev_go i223_40 rfl
theorem i223_41 : insAt 223 41 = some (.putfield 31, 3, (12, 7, 0, 0), 371) := rfl
theorem s223_41 {c : Nat → List AV → SS → Option Out} {l0 l1 l2 l3 l4 l5 : Option AV} {j t : Nat} {x : Int32} {L2 : List (Nat × AV)} {St : List AV} {S : SS} : ev c 223 41 [l0, l1, l2, l3, l4, l5] L2 (aI x :: aR (12, j, t) :: St) S = ev c 223 44 [l0, l1, l2, l3, l4, l5] L2 St (setI S.1 (12, j, t) 7 x, S.2) := ev_go i223_41 rfl
theorem i223_44 : insAt 223 44 = some (.aload_n 0, 1, (0, 0, 0, 0), 0) := rfl
theorem s223_44 {c : Nat → List AV → SS → Option Out} {l1 l2 l3 l4 l5 : Option AV} {o : OId} {L2 : List (Nat × AV)} {St : List AV} {S : SS} : ev c 223 44 [some (aR o), l1, l2, l3, l4, l5] L2 St S = ev c 223 45 [some (aR o), l1, l2, l3, l4, l5] L2 (aR o :: St) S := ev_go i223_44 rfl
theorem i223_45 : insAt 223 45 = some (.getfield 31, 3, (12, 7, 0, 0), 371) := rfl
theorem s223_45 {c : Nat → List AV → SS → Option Out} {l0 l1 l2 l3 l4 l5 : Option AV} {j t : Nat} {L2 : List (Nat × AV)} {St : List AV} {S : SS} : ev c 223 45 [l0, l1, l2, l3, l4, l5] L2 (aR (12, j, t) :: St) S = ev c 223 48 [l0, l1, l2, l3, l4, l5] L2 (aI (S.1 (12, j, t) 7) :: St) S := ev_go i223_45 rfl
theorem i223_48 : insAt 223 48 = some (.ifCond .le 5, 3, (0, 0, 0, 0), 0) := rfl
theorem s223_48 {c : Nat → List AV → SS → Option Out} {l0 l1 l2 l3 l4 l5 : Option AV} {x : Int32} {L2 : List (Nat × AV)} {St : List AV} {S : SS} : ev c 223 48 [l0, l1, l2, l3, l4, l5] L2 (aI x :: St) S = if x ≤ 0 then ev c 223 53 [l0, l1, l2, l3, l4, l5] L2 St S else ev c 223 51 [l0, l1, l2, l3, l4, l5] L2 St S := ev_br i223_48 rfl
theorem i223_51 : insAt 223 51 = some (.iconst 0, 1, (0, 0, 0, 0), 0) := rfl
theorem s223_51 {c : Nat → List AV → SS → Option Out} {l0 l1 l2 l3 l4 l5 : Option AV} {L2 : List (Nat × AV)} {St : List AV} {S : SS} : ev c 223 51 [l0, l1, l2, l3, l4, l5] L2 St S = ev c 223 52 [l0, l1, l2, l3, l4, l5] L2 (aI 0 :: St) S := ev_go i223_51 rfl
theorem i223_52 : insAt 223 52 = some (.ireturn, 1, (0, 0, 0, 0), 0) := rfl
theorem s223_52 {c : Nat → List AV → SS → Option Out} {l0 l1 l2 l3 l4 l5 : Option AV} {x : Int32} {L2 : List (Nat × AV)} {S : SS} : ev c 223 52 [l0, l1, l2, l3, l4, l5] L2 [aI x] S = some (.inl (some (aI x)), S) := ev_end i223_52 rfl
theorem i223_53 : insAt 223 53 = some (.aload_n 0, 1, (0, 0, 0, 0), 0) := rfl
theorem s223_53 {c : Nat → List AV → SS → Option Out} {l1 l2 l3 l4 l5 : Option AV} {o : OId} {L2 : List (Nat × AV)} {St : List AV} {S : SS} : ev c 223 53 [some (aR o), l1, l2, l3, l4, l5] L2 St S = ev c 223 54 [some (aR o), l1, l2, l3, l4, l5] L2 (aR o :: St) S := ev_go i223_53 rfl
theorem i223_54 : insAt 223 54 = some (.iload_n 1, 1, (0, 0, 0, 0), 0) := rfl
theorem s223_54 {c : Nat → List AV → SS → Option Out} {l0 l2 l3 l4 l5 : Option AV} {x : Int32} {L2 : List (Nat × AV)} {St : List AV} {S : SS} : ev c 223 54 [l0, some (aI x), l2, l3, l4, l5] L2 St S = ev c 223 55 [l0, some (aI x), l2, l3, l4, l5] L2 (aI x :: St) S := ev_go i223_54 rfl
theorem i223_55 : insAt 223 55 = some (.iload_n 2, 1, (0, 0, 0, 0), 0) := rfl
theorem s223_55 {c : Nat → List AV → SS → Option Out} {l0 l1 l3 l4 l5 : Option AV} {x : Int32} {L2 : List (Nat × AV)} {St : List AV} {S : SS} : ev c 223 55 [l0, l1, some (aI x), l3, l4, l5] L2 St S = ev c 223 56 [l0, l1, some (aI x), l3, l4, l5] L2 (aI x :: St) S := ev_go i223_55 rfl
theorem i223_56 : insAt 223 56 = some (.iconst (-1), 1, (0, 0, 0, 0), 0) := rfl
theorem s223_56 {c : Nat → List AV → SS → Option Out} {l0 l1 l2 l3 l4 l5 : Option AV} {L2 : List (Nat × AV)} {St : List AV} {S : SS} : ev c 223 56 [l0, l1, l2, l3, l4, l5] L2 St S = ev c 223 57 [l0, l1, l2, l3, l4, l5] L2 (aI (-1) :: St) S := ev_go i223_56 rfl
theorem i223_57 : insAt 223 57 = some (.iconst (-1), 1, (0, 0, 0, 0), 0) := rfl
theorem s223_57 {c : Nat → List AV → SS → Option Out} {l0 l1 l2 l3 l4 l5 : Option AV} {L2 : List (Nat × AV)} {St : List AV} {S : SS} : ev c 223 57 [l0, l1, l2, l3, l4, l5] L2 St S = ev c 223 58 [l0, l1, l2, l3, l4, l5] L2 (aI (-1) :: St) S := ev_go i223_57 rfl
theorem i223_58 : insAt 223 58 = some (.iconst (-1), 1, (0, 0, 0, 0), 0) := rfl
theorem s223_58 {c : Nat → List AV → SS → Option Out} {l0 l1 l2 l3 l4 l5 : Option AV} {L2 : List (Nat × AV)} {St : List AV} {S : SS} : ev c 223 58 [l0, l1, l2, l3, l4, l5] L2 St S = ev c 223 59 [l0, l1, l2, l3, l4, l5] L2 (aI (-1) :: St) S := ev_go i223_58 rfl
theorem i223_59 : insAt 223 59 = some (.invokevirtual 140, 3, (226, 5, 2, 12), 389) := rfl
theorem s223_59 {c : Nat → List AV → SS → Option Out} {l0 l1 l2 l3 l4 l5 : Option AV} {a0 : Int32} {a1 : Int32} {a2 : Int32} {a3 : Int32} {a4 : Int32} {j t : Nat} {L2 : List (Nat × AV)} {S : SS} : ev c 223 59 [l0, l1, l2, l3, l4, l5] L2 [aI a4, aI a3, aI a2, aI a1, aI a0, aR (12, j, t)] S = ck (c 226 [aR (12, j, t), aI a0, aI a1, aI a2, aI a3, aI a4] S) (fun v S' => ev c 223 62 [l0, l1, l2, l3, l4, l5] L2 (v.toList ++ []) S') := ev_call i223_59 rfl
theorem i223_62 : insAt 223 62 = some (.istore 4, 2, (0, 0, 0, 0), 0) := rfl
theorem s223_62 {c : Nat → List AV → SS → Option Out} {l0 l1 l2 l3 l4 l5 : Option AV} {x : Int32} {L2 : List (Nat × AV)} {St : List AV} {S : SS} : ev c 223 62 [l0, l1, l2, l3, l4, l5] L2 (aI x :: St) S = ev c 223 64 [l0, l1, l2, l3, some (aI x), l5] (kil L2 4) St S := ev_go i223_62 rfl
theorem i223_64 : insAt 223 64 = some (.aload_n 0, 1, (0, 0, 0, 0), 0) := rfl
theorem s223_64 {c : Nat → List AV → SS → Option Out} {l1 l2 l3 l4 l5 : Option AV} {o : OId} {L2 : List (Nat × AV)} {St : List AV} {S : SS} : ev c 223 64 [some (aR o), l1, l2, l3, l4, l5] L2 St S = ev c 223 65 [some (aR o), l1, l2, l3, l4, l5] L2 (aR o :: St) S := ev_go i223_64 rfl
theorem i223_65 : insAt 223 65 = some (.iload 4, 2, (0, 0, 0, 0), 0) := rfl
theorem s223_65 {c : Nat → List AV → SS → Option Out} {l0 l1 l2 l3 l5 : Option AV} {x : Int32} {L2 : List (Nat × AV)} {St : List AV} {S : SS} : ev c 223 65 [l0, l1, l2, l3, some (aI x), l5] L2 St S = ev c 223 67 [l0, l1, l2, l3, some (aI x), l5] L2 (aI x :: St) S := ev_go i223_65 rfl
theorem i223_67 : insAt 223 67 = some (.ifCond .ge 7, 3, (0, 0, 0, 0), 0) := rfl
theorem s223_67 {c : Nat → List AV → SS → Option Out} {l0 l1 l2 l3 l4 l5 : Option AV} {x : Int32} {L2 : List (Nat × AV)} {St : List AV} {S : SS} : ev c 223 67 [l0, l1, l2, l3, l4, l5] L2 (aI x :: St) S = if 0 ≤ x then ev c 223 74 [l0, l1, l2, l3, l4, l5] L2 St S else ev c 223 70 [l0, l1, l2, l3, l4, l5] L2 St S := ev_br i223_67 rfl
theorem i223_70 : insAt 223 70 = some (.iconst 3, 1, (0, 0, 0, 0), 0) := rfl
theorem s223_70 {c : Nat → List AV → SS → Option Out} {l0 l1 l2 l3 l4 l5 : Option AV} {L2 : List (Nat × AV)} {St : List AV} {S : SS} : ev c 223 70 [l0, l1, l2, l3, l4, l5] L2 St S = ev c 223 71 [l0, l1, l2, l3, l4, l5] L2 (aI 3 :: St) S := ev_go i223_70 rfl
theorem i223_71 : insAt 223 71 = some (.goto 4, 3, (0, 0, 0, 0), 0) := rfl
theorem s223_71 {c : Nat → List AV → SS → Option Out} {l0 l1 l2 l3 l4 l5 : Option AV} {L2 : List (Nat × AV)} {St : List AV} {S : SS} : ev c 223 71 [l0, l1, l2, l3, l4, l5] L2 St S = ev c 223 75 [l0, l1, l2, l3, l4, l5] L2 St S := ev_go i223_71 rfl
theorem i223_74 : insAt 223 74 = some (.iconst 0, 1, (0, 0, 0, 0), 0) := rfl
theorem s223_74 {c : Nat → List AV → SS → Option Out} {l0 l1 l2 l3 l4 l5 : Option AV} {L2 : List (Nat × AV)} {St : List AV} {S : SS} : ev c 223 74 [l0, l1, l2, l3, l4, l5] L2 St S = ev c 223 75 [l0, l1, l2, l3, l4, l5] L2 (aI 0 :: St) S := ev_go i223_74 rfl
theorem i223_75 : insAt 223 75 = some (.putfield 31, 3, (12, 7, 0, 0), 371) := rfl
theorem s223_75 {c : Nat → List AV → SS → Option Out} {l0 l1 l2 l3 l4 l5 : Option AV} {j t : Nat} {x : Int32} {L2 : List (Nat × AV)} {St : List AV} {S : SS} : ev c 223 75 [l0, l1, l2, l3, l4, l5] L2 (aI x :: aR (12, j, t) :: St) S = ev c 223 78 [l0, l1, l2, l3, l4, l5] L2 St (setI S.1 (12, j, t) 7 x, S.2) := ev_go i223_75 rfl
theorem i223_78 : insAt 223 78 = some (.aload_n 0, 1, (0, 0, 0, 0), 0) := rfl
theorem s223_78 {c : Nat → List AV → SS → Option Out} {l1 l2 l3 l4 l5 : Option AV} {o : OId} {L2 : List (Nat × AV)} {St : List AV} {S : SS} : ev c 223 78 [some (aR o), l1, l2, l3, l4, l5] L2 St S = ev c 223 79 [some (aR o), l1, l2, l3, l4, l5] L2 (aR o :: St) S := ev_go i223_78 rfl
theorem i223_79 : insAt 223 79 = some (.getfield 31, 3, (12, 7, 0, 0), 371) := rfl
theorem s223_79 {c : Nat → List AV → SS → Option Out} {l0 l1 l2 l3 l4 l5 : Option AV} {j t : Nat} {L2 : List (Nat × AV)} {St : List AV} {S : SS} : ev c 223 79 [l0, l1, l2, l3, l4, l5] L2 (aR (12, j, t) :: St) S = ev c 223 82 [l0, l1, l2, l3, l4, l5] L2 (aI (S.1 (12, j, t) 7) :: St) S := ev_go i223_79 rfl
theorem i223_82 : insAt 223 82 = some (.ifCond .le 5, 3, (0, 0, 0, 0), 0) := rfl
theorem s223_82 {c : Nat → List AV → SS → Option Out} {l0 l1 l2 l3 l4 l5 : Option AV} {x : Int32} {L2 : List (Nat × AV)} {St : List AV} {S : SS} : ev c 223 82 [l0, l1, l2, l3, l4, l5] L2 (aI x :: St) S = if x ≤ 0 then ev c 223 87 [l0, l1, l2, l3, l4, l5] L2 St S else ev c 223 85 [l0, l1, l2, l3, l4, l5] L2 St S := ev_br i223_82 rfl
theorem i223_85 : insAt 223 85 = some (.iconst 0, 1, (0, 0, 0, 0), 0) := rfl
theorem s223_85 {c : Nat → List AV → SS → Option Out} {l0 l1 l2 l3 l4 l5 : Option AV} {L2 : List (Nat × AV)} {St : List AV} {S : SS} : ev c 223 85 [l0, l1, l2, l3, l4, l5] L2 St S = ev c 223 86 [l0, l1, l2, l3, l4, l5] L2 (aI 0 :: St) S := ev_go i223_85 rfl
theorem i223_86 : insAt 223 86 = some (.ireturn, 1, (0, 0, 0, 0), 0) := rfl
theorem s223_86 {c : Nat → List AV → SS → Option Out} {l0 l1 l2 l3 l4 l5 : Option AV} {x : Int32} {L2 : List (Nat × AV)} {S : SS} : ev c 223 86 [l0, l1, l2, l3, l4, l5] L2 [aI x] S = some (.inl (some (aI x)), S) := ev_end i223_86 rfl
theorem i223_87 : insAt 223 87 = some (.aload_n 0, 1, (0, 0, 0, 0), 0) := rfl
theorem s223_87 {c : Nat → List AV → SS → Option Out} {l1 l2 l3 l4 l5 : Option AV} {o : OId} {L2 : List (Nat × AV)} {St : List AV} {S : SS} : ev c 223 87 [some (aR o), l1, l2, l3, l4, l5] L2 St S = ev c 223 88 [some (aR o), l1, l2, l3, l4, l5] L2 (aR o :: St) S := ev_go i223_87 rfl
theorem i223_88 : insAt 223 88 = some (.invokevirtual 86, 3, (217, 0, 2, 12), 384) := rfl
theorem s223_88 {c : Nat → List AV → SS → Option Out} {l0 l1 l2 l3 l4 l5 : Option AV} {j t : Nat} {L2 : List (Nat × AV)} {S : SS} : ev c 223 88 [l0, l1, l2, l3, l4, l5] L2 [aR (12, j, t)] S = ck (c 217 [aR (12, j, t)] S) (fun v S' => ev c 223 91 [l0, l1, l2, l3, l4, l5] L2 (v.toList ++ []) S') := ev_call i223_88 rfl
theorem i223_91 : insAt 223 91 = some (.aload_n 0, 1, (0, 0, 0, 0), 0) := rfl
theorem s223_91 {c : Nat → List AV → SS → Option Out} {l1 l2 l3 l4 l5 : Option AV} {o : OId} {L2 : List (Nat × AV)} {St : List AV} {S : SS} : ev c 223 91 [some (aR o), l1, l2, l3, l4, l5] L2 St S = ev c 223 92 [some (aR o), l1, l2, l3, l4, l5] L2 (aR o :: St) S := ev_go i223_91 rfl
theorem i223_92 : insAt 223 92 = some (.iload 4, 2, (0, 0, 0, 0), 0) := rfl
theorem s223_92 {c : Nat → List AV → SS → Option Out} {l0 l1 l2 l3 l5 : Option AV} {x : Int32} {L2 : List (Nat × AV)} {St : List AV} {S : SS} : ev c 223 92 [l0, l1, l2, l3, some (aI x), l5] L2 St S = ev c 223 94 [l0, l1, l2, l3, some (aI x), l5] L2 (aI x :: St) S := ev_go i223_92 rfl
theorem i223_94 : insAt 223 94 = some (.invokevirtual 161, 3, (243, 1, 2, 12), 390) := rfl
theorem s223_94 {c : Nat → List AV → SS → Option Out} {l0 l1 l2 l3 l4 l5 : Option AV} {a0 : Int32} {j t : Nat} {L2 : List (Nat × AV)} {S : SS} : ev c 223 94 [l0, l1, l2, l3, l4, l5] L2 [aI a0, aR (12, j, t)] S = ck (c 243 [aR (12, j, t), aI a0] S) (fun v S' => ev c 223 97 [l0, l1, l2, l3, l4, l5] L2 (v.toList ++ []) S') := ev_call i223_94 rfl
theorem i223_97 : insAt 223 97 = some (.aload_n 0, 1, (0, 0, 0, 0), 0) := rfl
theorem s223_97 {c : Nat → List AV → SS → Option Out} {l1 l2 l3 l4 l5 : Option AV} {o : OId} {L2 : List (Nat × AV)} {St : List AV} {S : SS} : ev c 223 97 [some (aR o), l1, l2, l3, l4, l5] L2 St S = ev c 223 98 [some (aR o), l1, l2, l3, l4, l5] L2 (aR o :: St) S := ev_go i223_97 rfl
theorem i223_98 : insAt 223 98 = some (.iload_n 1, 1, (0, 0, 0, 0), 0) := rfl
theorem s223_98 {c : Nat → List AV → SS → Option Out} {l0 l2 l3 l4 l5 : Option AV} {x : Int32} {L2 : List (Nat × AV)} {St : List AV} {S : SS} : ev c 223 98 [l0, some (aI x), l2, l3, l4, l5] L2 St S = ev c 223 99 [l0, some (aI x), l2, l3, l4, l5] L2 (aI x :: St) S := ev_go i223_98 rfl
theorem i223_99 : insAt 223 99 = some (.iload_n 2, 1, (0, 0, 0, 0), 0) := rfl
theorem s223_99 {c : Nat → List AV → SS → Option Out} {l0 l1 l3 l4 l5 : Option AV} {x : Int32} {L2 : List (Nat × AV)} {St : List AV} {S : SS} : ev c 223 99 [l0, l1, some (aI x), l3, l4, l5] L2 St S = ev c 223 100 [l0, l1, some (aI x), l3, l4, l5] L2 (aI x :: St) S := ev_go i223_99 rfl
theorem i223_100 : insAt 223 100 = some (.aload_n 0, 1, (0, 0, 0, 0), 0) := rfl
theorem s223_100 {c : Nat → List AV → SS → Option Out} {l1 l2 l3 l4 l5 : Option AV} {o : OId} {L2 : List (Nat × AV)} {St : List AV} {S : SS} : ev c 223 100 [some (aR o), l1, l2, l3, l4, l5] L2 St S = ev c 223 101 [some (aR o), l1, l2, l3, l4, l5] L2 (aR o :: St) S := ev_go i223_100 rfl
theorem i223_101 : insAt 223 101 = some (.getfield 53, 3, (12, 14, 0, 0), 378) := rfl
theorem s223_101 {c : Nat → List AV → SS → Option Out} {l0 l1 l2 l3 l4 l5 : Option AV} {j t : Nat} {L2 : List (Nat × AV)} {St : List AV} {S : SS} : ev c 223 101 [l0, l1, l2, l3, l4, l5] L2 (aR (12, j, t) :: St) S = ev c 223 104 [l0, l1, l2, l3, l4, l5] L2 (aI (S.1 (12, j, t) 14) :: St) S := ev_go i223_101 rfl
theorem i223_104 : insAt 223 104 = some (.iload_n 3, 1, (0, 0, 0, 0), 0) := rfl
theorem s223_104 {c : Nat → List AV → SS → Option Out} {l0 l1 l2 l4 l5 : Option AV} {x : Int32} {L2 : List (Nat × AV)} {St : List AV} {S : SS} : ev c 223 104 [l0, l1, l2, some (aI x), l4, l5] L2 St S = ev c 223 105 [l0, l1, l2, some (aI x), l4, l5] L2 (aI x :: St) S := ev_go i223_104 rfl
theorem i223_105 : insAt 223 105 = some (.iconst 1, 1, (0, 0, 0, 0), 0) := rfl
theorem s223_105 {c : Nat → List AV → SS → Option Out} {l0 l1 l2 l3 l4 l5 : Option AV} {L2 : List (Nat × AV)} {St : List AV} {S : SS} : ev c 223 105 [l0, l1, l2, l3, l4, l5] L2 St S = ev c 223 106 [l0, l1, l2, l3, l4, l5] L2 (aI 1 :: St) S := ev_go i223_105 rfl
theorem i223_106 : insAt 223 106 = some (.invokevirtual 164, 3, (244, 5, 2, 12), 391) := rfl
theorem s223_106 {c : Nat → List AV → SS → Option Out} {l0 l1 l2 l3 l4 l5 : Option AV} {a0 : Int32} {a1 : Int32} {a2 : Int32} {a3 : Int32} {a4 : Int32} {j t : Nat} {L2 : List (Nat × AV)} {S : SS} : ev c 223 106 [l0, l1, l2, l3, l4, l5] L2 [aI a4, aI a3, aI a2, aI a1, aI a0, aR (12, j, t)] S = ck (c 244 [aR (12, j, t), aI a0, aI a1, aI a2, aI a3, aI a4] S) (fun v S' => ev c 223 109 [l0, l1, l2, l3, l4, l5] L2 (v.toList ++ []) S') := ev_call i223_106 rfl
theorem i223_109 : insAt 223 109 = some (.istore 5, 2, (0, 0, 0, 0), 0) := rfl
theorem s223_109 {c : Nat → List AV → SS → Option Out} {l0 l1 l2 l3 l4 l5 : Option AV} {x : Int32} {L2 : List (Nat × AV)} {St : List AV} {S : SS} : ev c 223 109 [l0, l1, l2, l3, l4, l5] L2 (aI x :: St) S = ev c 223 111 [l0, l1, l2, l3, l4, some (aI x)] (kil L2 5) St S := ev_go i223_109 rfl
theorem i223_111 : insAt 223 111 = some (.aload_n 0, 1, (0, 0, 0, 0), 0) := rfl
theorem s223_111 {c : Nat → List AV → SS → Option Out} {l1 l2 l3 l4 l5 : Option AV} {o : OId} {L2 : List (Nat × AV)} {St : List AV} {S : SS} : ev c 223 111 [some (aR o), l1, l2, l3, l4, l5] L2 St S = ev c 223 112 [some (aR o), l1, l2, l3, l4, l5] L2 (aR o :: St) S := ev_go i223_111 rfl
theorem i223_112 : insAt 223 112 = some (.invokevirtual 167, 3, (246, 0, 2, 12), 392) := rfl
theorem s223_112 {c : Nat → List AV → SS → Option Out} {l0 l1 l2 l3 l4 l5 : Option AV} {j t : Nat} {L2 : List (Nat × AV)} {S : SS} : ev c 223 112 [l0, l1, l2, l3, l4, l5] L2 [aR (12, j, t)] S = ck (c 246 [aR (12, j, t)] S) (fun v S' => ev c 223 115 [l0, l1, l2, l3, l4, l5] L2 (v.toList ++ []) S') := ev_call i223_112 rfl
theorem i223_115 : insAt 223 115 = some (.iload 5, 2, (0, 0, 0, 0), 0) := rfl
theorem s223_115 {c : Nat → List AV → SS → Option Out} {l0 l1 l2 l3 l4 : Option AV} {x : Int32} {L2 : List (Nat × AV)} {St : List AV} {S : SS} : ev c 223 115 [l0, l1, l2, l3, l4, some (aI x)] L2 St S = ev c 223 117 [l0, l1, l2, l3, l4, some (aI x)] L2 (aI x :: St) S := ev_go i223_115 rfl
theorem i223_117 : insAt 223 117 = some (.ireturn, 1, (0, 0, 0, 0), 0) := rfl
theorem s223_117 {c : Nat → List AV → SS → Option Out} {l0 l1 l2 l3 l4 l5 : Option AV} {x : Int32} {L2 : List (Nat × AV)} {S : SS} : ev c 223 117 [l0, l1, l2, l3, l4, l5] L2 [aI x] S = some (.inl (some (aI x)), S) := ev_end i223_117 rfl
theorem m223 {d : Nat} {o : OId} {a0 : Int32} {a1 : Int32} {a2 : Int32} {S : SS} : evm (d + 1) 223 [aR o, aI a0, aI a1, aI a2] S = ev (evm d) 223 0 [some (aR o), some (aI a0), some (aI a1), some (aI a2), none, none] [] [] S := evm_s (n := 6) rfl (Nat.le_of_ble_eq_true rfl) rfl rfl
/-! FrequencyOfficeModel.isPoint(II)Z -/
theorem i224_0 : insAt 224 0 = some (.iload_n 0, 1, (0, 0, 0, 0), 0) := rfl
theorem s224_0 {c : Nat → List AV → SS → Option Out} {l1 : Option AV} {x : Int32} {L2 : List (Nat × AV)} {St : List AV} {S : SS} : ev c 224 0 [some (aI x), l1] L2 St S = ev c 224 1 [some (aI x), l1] L2 (aI x :: St) S := ev_go i224_0 rfl
theorem i224_1 : insAt 224 1 = some (.iconst 0, 1, (0, 0, 0, 0), 0) := rfl
theorem s224_1 {c : Nat → List AV → SS → Option Out} {l0 l1 : Option AV} {L2 : List (Nat × AV)} {St : List AV} {S : SS} : ev c 224 1 [l0, l1] L2 St S = ev c 224 2 [l0, l1] L2 (aI 0 :: St) S := ev_go i224_1 rfl
theorem i224_2 : insAt 224 2 = some (.bipush 99, 2, (0, 0, 0, 0), 0) := rfl
theorem s224_2 {c : Nat → List AV → SS → Option Out} {l0 l1 : Option AV} {L2 : List (Nat × AV)} {St : List AV} {S : SS} : ev c 224 2 [l0, l1] L2 St S = ev c 224 4 [l0, l1] L2 (aI 99 :: St) S := ev_go i224_2 rfl
theorem i224_4 : insAt 224 4 = some (.invokestatic 154, 3, (225, 3, 0, 0), 388) := rfl
theorem s224_4 {c : Nat → List AV → SS → Option Out} {l0 l1 : Option AV} {a0 : Int32} {a1 : Int32} {a2 : Int32} {L2 : List (Nat × AV)} {S : SS} : ev c 224 4 [l0, l1] L2 [aI a2, aI a1, aI a0] S = ck (c 225 [aI a0, aI a1, aI a2] S) (fun v S' => ev c 224 7 [l0, l1] L2 (v.toList ++ []) S') := ev_call i224_4 rfl
theorem i224_7 : insAt 224 7 = some (.ifCond .eq 17, 3, (0, 0, 0, 0), 0) := rfl
theorem s224_7 {c : Nat → List AV → SS → Option Out} {l0 l1 : Option AV} {x : Int32} {L2 : List (Nat × AV)} {St : List AV} {S : SS} : ev c 224 7 [l0, l1] L2 (aI x :: St) S = if x = 0 then ev c 224 24 [l0, l1] L2 St S else ev c 224 10 [l0, l1] L2 St S := ev_br i224_7 rfl
theorem i224_10 : insAt 224 10 = some (.iload_n 1, 1, (0, 0, 0, 0), 0) := rfl
theorem s224_10 {c : Nat → List AV → SS → Option Out} {l0 : Option AV} {x : Int32} {L2 : List (Nat × AV)} {St : List AV} {S : SS} : ev c 224 10 [l0, some (aI x)] L2 St S = ev c 224 11 [l0, some (aI x)] L2 (aI x :: St) S := ev_go i224_10 rfl
theorem i224_11 : insAt 224 11 = some (.iconst 0, 1, (0, 0, 0, 0), 0) := rfl
theorem s224_11 {c : Nat → List AV → SS → Option Out} {l0 l1 : Option AV} {L2 : List (Nat × AV)} {St : List AV} {S : SS} : ev c 224 11 [l0, l1] L2 St S = ev c 224 12 [l0, l1] L2 (aI 0 :: St) S := ev_go i224_11 rfl
theorem i224_12 : insAt 224 12 = some (.bipush 99, 2, (0, 0, 0, 0), 0) := rfl
theorem s224_12 {c : Nat → List AV → SS → Option Out} {l0 l1 : Option AV} {L2 : List (Nat × AV)} {St : List AV} {S : SS} : ev c 224 12 [l0, l1] L2 St S = ev c 224 14 [l0, l1] L2 (aI 99 :: St) S := ev_go i224_12 rfl
theorem i224_14 : insAt 224 14 = some (.invokestatic 154, 3, (225, 3, 0, 0), 388) := rfl
theorem s224_14 {c : Nat → List AV → SS → Option Out} {l0 l1 : Option AV} {a0 : Int32} {a1 : Int32} {a2 : Int32} {L2 : List (Nat × AV)} {S : SS} : ev c 224 14 [l0, l1] L2 [aI a2, aI a1, aI a0] S = ck (c 225 [aI a0, aI a1, aI a2] S) (fun v S' => ev c 224 17 [l0, l1] L2 (v.toList ++ []) S') := ev_call i224_14 rfl
theorem i224_17 : insAt 224 17 = some (.ifCond .eq 7, 3, (0, 0, 0, 0), 0) := rfl
theorem s224_17 {c : Nat → List AV → SS → Option Out} {l0 l1 : Option AV} {x : Int32} {L2 : List (Nat × AV)} {St : List AV} {S : SS} : ev c 224 17 [l0, l1] L2 (aI x :: St) S = if x = 0 then ev c 224 24 [l0, l1] L2 St S else ev c 224 20 [l0, l1] L2 St S := ev_br i224_17 rfl
theorem i224_20 : insAt 224 20 = some (.iconst 1, 1, (0, 0, 0, 0), 0) := rfl
theorem s224_20 {c : Nat → List AV → SS → Option Out} {l0 l1 : Option AV} {L2 : List (Nat × AV)} {St : List AV} {S : SS} : ev c 224 20 [l0, l1] L2 St S = ev c 224 21 [l0, l1] L2 (aI 1 :: St) S := ev_go i224_20 rfl
theorem i224_21 : insAt 224 21 = some (.goto 4, 3, (0, 0, 0, 0), 0) := rfl
theorem s224_21 {c : Nat → List AV → SS → Option Out} {l0 l1 : Option AV} {L2 : List (Nat × AV)} {St : List AV} {S : SS} : ev c 224 21 [l0, l1] L2 St S = ev c 224 25 [l0, l1] L2 St S := ev_go i224_21 rfl
theorem i224_24 : insAt 224 24 = some (.iconst 0, 1, (0, 0, 0, 0), 0) := rfl
theorem s224_24 {c : Nat → List AV → SS → Option Out} {l0 l1 : Option AV} {L2 : List (Nat × AV)} {St : List AV} {S : SS} : ev c 224 24 [l0, l1] L2 St S = ev c 224 25 [l0, l1] L2 (aI 0 :: St) S := ev_go i224_24 rfl
theorem i224_25 : insAt 224 25 = some (.ireturn, 1, (0, 0, 0, 0), 0) := rfl
theorem s224_25 {c : Nat → List AV → SS → Option Out} {l0 l1 : Option AV} {x : Int32} {L2 : List (Nat × AV)} {S : SS} : ev c 224 25 [l0, l1] L2 [aI x] S = if x = 0 ∨ x = 1 then some (.inl (some (aI x)), S) else none := ev_rt i224_25 rfl
theorem m224 {d : Nat} {a0 : Int32} {a1 : Int32} {S : SS} : evm (d + 1) 224 [aI a0, aI a1] S = ev (evm d) 224 0 [some (aI a0), some (aI a1)] [] [] S := evm_s (n := 2) rfl (Nat.le_of_ble_eq_true rfl) rfl rfl
/-! FrequencyOfficeModel.in(III)Z -/
theorem i225_0 : insAt 225 0 = some (.iload_n 0, 1, (0, 0, 0, 0), 0) := rfl
theorem s225_0 {c : Nat → List AV → SS → Option Out} {l1 l2 : Option AV} {x : Int32} {L2 : List (Nat × AV)} {St : List AV} {S : SS} : ev c 225 0 [some (aI x), l1, l2] L2 St S = ev c 225 1 [some (aI x), l1, l2] L2 (aI x :: St) S := ev_go i225_0 rfl
theorem i225_1 : insAt 225 1 = some (.iload_n 1, 1, (0, 0, 0, 0), 0) := rfl
theorem s225_1 {c : Nat → List AV → SS → Option Out} {l0 l2 : Option AV} {x : Int32} {L2 : List (Nat × AV)} {St : List AV} {S : SS} : ev c 225 1 [l0, some (aI x), l2] L2 St S = ev c 225 2 [l0, some (aI x), l2] L2 (aI x :: St) S := ev_go i225_1 rfl
theorem i225_2 : insAt 225 2 = some (.if_icmp .lt 12, 3, (0, 0, 0, 0), 0) := rfl
theorem s225_2 {c : Nat → List AV → SS → Option Out} {l0 l1 l2 : Option AV} {x y : Int32} {L2 : List (Nat × AV)} {St : List AV} {S : SS} : ev c 225 2 [l0, l1, l2] L2 (aI y :: aI x :: St) S = if x < y then ev c 225 14 [l0, l1, l2] L2 St S else ev c 225 5 [l0, l1, l2] L2 St S := ev_br i225_2 rfl
theorem i225_5 : insAt 225 5 = some (.iload_n 0, 1, (0, 0, 0, 0), 0) := rfl
theorem s225_5 {c : Nat → List AV → SS → Option Out} {l1 l2 : Option AV} {x : Int32} {L2 : List (Nat × AV)} {St : List AV} {S : SS} : ev c 225 5 [some (aI x), l1, l2] L2 St S = ev c 225 6 [some (aI x), l1, l2] L2 (aI x :: St) S := ev_go i225_5 rfl
theorem i225_6 : insAt 225 6 = some (.iload_n 2, 1, (0, 0, 0, 0), 0) := rfl
theorem s225_6 {c : Nat → List AV → SS → Option Out} {l0 l1 : Option AV} {x : Int32} {L2 : List (Nat × AV)} {St : List AV} {S : SS} : ev c 225 6 [l0, l1, some (aI x)] L2 St S = ev c 225 7 [l0, l1, some (aI x)] L2 (aI x :: St) S := ev_go i225_6 rfl
theorem i225_7 : insAt 225 7 = some (.if_icmp .gt 7, 3, (0, 0, 0, 0), 0) := rfl
theorem s225_7 {c : Nat → List AV → SS → Option Out} {l0 l1 l2 : Option AV} {x y : Int32} {L2 : List (Nat × AV)} {St : List AV} {S : SS} : ev c 225 7 [l0, l1, l2] L2 (aI y :: aI x :: St) S = if y < x then ev c 225 14 [l0, l1, l2] L2 St S else ev c 225 10 [l0, l1, l2] L2 St S := ev_br i225_7 rfl
theorem i225_10 : insAt 225 10 = some (.iconst 1, 1, (0, 0, 0, 0), 0) := rfl
theorem s225_10 {c : Nat → List AV → SS → Option Out} {l0 l1 l2 : Option AV} {L2 : List (Nat × AV)} {St : List AV} {S : SS} : ev c 225 10 [l0, l1, l2] L2 St S = ev c 225 11 [l0, l1, l2] L2 (aI 1 :: St) S := ev_go i225_10 rfl
theorem i225_11 : insAt 225 11 = some (.goto 4, 3, (0, 0, 0, 0), 0) := rfl
theorem s225_11 {c : Nat → List AV → SS → Option Out} {l0 l1 l2 : Option AV} {L2 : List (Nat × AV)} {St : List AV} {S : SS} : ev c 225 11 [l0, l1, l2] L2 St S = ev c 225 15 [l0, l1, l2] L2 St S := ev_go i225_11 rfl
theorem i225_14 : insAt 225 14 = some (.iconst 0, 1, (0, 0, 0, 0), 0) := rfl
theorem s225_14 {c : Nat → List AV → SS → Option Out} {l0 l1 l2 : Option AV} {L2 : List (Nat × AV)} {St : List AV} {S : SS} : ev c 225 14 [l0, l1, l2] L2 St S = ev c 225 15 [l0, l1, l2] L2 (aI 0 :: St) S := ev_go i225_14 rfl
theorem i225_15 : insAt 225 15 = some (.ireturn, 1, (0, 0, 0, 0), 0) := rfl
theorem s225_15 {c : Nat → List AV → SS → Option Out} {l0 l1 l2 : Option AV} {x : Int32} {L2 : List (Nat × AV)} {S : SS} : ev c 225 15 [l0, l1, l2] L2 [aI x] S = if x = 0 ∨ x = 1 then some (.inl (some (aI x)), S) else none := ev_rt i225_15 rfl
theorem m225 {d : Nat} {a0 : Int32} {a1 : Int32} {a2 : Int32} {S : SS} : evm (d + 1) 225 [aI a0, aI a1, aI a2] S = ev (evm d) 225 0 [some (aI a0), some (aI a1), some (aI a2)] [] [] S := evm_s (n := 3) rfl (Nat.le_of_ble_eq_true rfl) rfl rfl
/-! FrequencyOfficeModel.planFor(IIIII)I -/
theorem i226_0 : insAt 226 0 = some (.aload_n 0, 1, (0, 0, 0, 0), 0) := rfl
theorem s226_0 {c : Nat → List AV → SS → Option Out} {l1 l2 l3 l4 l5 l6 l7 : Option AV} {o : OId} {L2 : List (Nat × AV)} {St : List AV} {S : SS} : ev c 226 0 [some (aR o), l1, l2, l3, l4, l5, l6, l7] L2 St S = ev c 226 1 [some (aR o), l1, l2, l3, l4, l5, l6, l7] L2 (aR o :: St) S := ev_go i226_0 rfl
theorem i226_1 : insAt 226 1 = some (.iload_n 1, 1, (0, 0, 0, 0), 0) := rfl
theorem s226_1 {c : Nat → List AV → SS → Option Out} {l0 l2 l3 l4 l5 l6 l7 : Option AV} {x : Int32} {L2 : List (Nat × AV)} {St : List AV} {S : SS} : ev c 226 1 [l0, some (aI x), l2, l3, l4, l5, l6, l7] L2 St S = ev c 226 2 [l0, some (aI x), l2, l3, l4, l5, l6, l7] L2 (aI x :: St) S := ev_go i226_1 rfl
theorem i226_2 : insAt 226 2 = some (.putfield 41, 3, (12, 10, 0, 0), 374) := rfl
theorem s226_2 {c : Nat → List AV → SS → Option Out} {l0 l1 l2 l3 l4 l5 l6 l7 : Option AV} {j t : Nat} {x : Int32} {L2 : List (Nat × AV)} {St : List AV} {S : SS} : ev c 226 2 [l0, l1, l2, l3, l4, l5, l6, l7] L2 (aI x :: aR (12, j, t) :: St) S = ev c 226 5 [l0, l1, l2, l3, l4, l5, l6, l7] L2 St (setI S.1 (12, j, t) 10 x, S.2) := ev_go i226_2 rfl
theorem i226_5 : insAt 226 5 = some (.aload_n 0, 1, (0, 0, 0, 0), 0) := rfl
theorem s226_5 {c : Nat → List AV → SS → Option Out} {l1 l2 l3 l4 l5 l6 l7 : Option AV} {o : OId} {L2 : List (Nat × AV)} {St : List AV} {S : SS} : ev c 226 5 [some (aR o), l1, l2, l3, l4, l5, l6, l7] L2 St S = ev c 226 6 [some (aR o), l1, l2, l3, l4, l5, l6, l7] L2 (aR o :: St) S := ev_go i226_5 rfl
theorem i226_6 : insAt 226 6 = some (.iload_n 2, 1, (0, 0, 0, 0), 0) := rfl
theorem s226_6 {c : Nat → List AV → SS → Option Out} {l0 l1 l3 l4 l5 l6 l7 : Option AV} {x : Int32} {L2 : List (Nat × AV)} {St : List AV} {S : SS} : ev c 226 6 [l0, l1, some (aI x), l3, l4, l5, l6, l7] L2 St S = ev c 226 7 [l0, l1, some (aI x), l3, l4, l5, l6, l7] L2 (aI x :: St) S := ev_go i226_6 rfl
theorem i226_7 : insAt 226 7 = some (.putfield 44, 3, (12, 11, 0, 0), 375) := rfl
theorem s226_7 {c : Nat → List AV → SS → Option Out} {l0 l1 l2 l3 l4 l5 l6 l7 : Option AV} {j t : Nat} {x : Int32} {L2 : List (Nat × AV)} {St : List AV} {S : SS} : ev c 226 7 [l0, l1, l2, l3, l4, l5, l6, l7] L2 (aI x :: aR (12, j, t) :: St) S = ev c 226 10 [l0, l1, l2, l3, l4, l5, l6, l7] L2 St (setI S.1 (12, j, t) 11 x, S.2) := ev_go i226_7 rfl
theorem i226_10 : insAt 226 10 = some (.aload_n 0, 1, (0, 0, 0, 0), 0) := rfl
theorem s226_10 {c : Nat → List AV → SS → Option Out} {l1 l2 l3 l4 l5 l6 l7 : Option AV} {o : OId} {L2 : List (Nat × AV)} {St : List AV} {S : SS} : ev c 226 10 [some (aR o), l1, l2, l3, l4, l5, l6, l7] L2 St S = ev c 226 11 [some (aR o), l1, l2, l3, l4, l5, l6, l7] L2 (aR o :: St) S := ev_go i226_10 rfl
theorem i226_11 : insAt 226 11 = some (.iload_n 3, 1, (0, 0, 0, 0), 0) := rfl
theorem s226_11 {c : Nat → List AV → SS → Option Out} {l0 l1 l2 l4 l5 l6 l7 : Option AV} {x : Int32} {L2 : List (Nat × AV)} {St : List AV} {S : SS} : ev c 226 11 [l0, l1, l2, some (aI x), l4, l5, l6, l7] L2 St S = ev c 226 12 [l0, l1, l2, some (aI x), l4, l5, l6, l7] L2 (aI x :: St) S := ev_go i226_11 rfl
theorem i226_12 : insAt 226 12 = some (.putfield 38, 3, (12, 9, 0, 0), 373) := rfl
theorem s226_12 {c : Nat → List AV → SS → Option Out} {l0 l1 l2 l3 l4 l5 l6 l7 : Option AV} {j t : Nat} {x : Int32} {L2 : List (Nat × AV)} {St : List AV} {S : SS} : ev c 226 12 [l0, l1, l2, l3, l4, l5, l6, l7] L2 (aI x :: aR (12, j, t) :: St) S = ev c 226 15 [l0, l1, l2, l3, l4, l5, l6, l7] L2 St (setI S.1 (12, j, t) 9 x, S.2) := ev_go i226_12 rfl
theorem i226_15 : insAt 226 15 = some (.aload_n 0, 1, (0, 0, 0, 0), 0) := rfl
theorem s226_15 {c : Nat → List AV → SS → Option Out} {l1 l2 l3 l4 l5 l6 l7 : Option AV} {o : OId} {L2 : List (Nat × AV)} {St : List AV} {S : SS} : ev c 226 15 [some (aR o), l1, l2, l3, l4, l5, l6, l7] L2 St S = ev c 226 16 [some (aR o), l1, l2, l3, l4, l5, l6, l7] L2 (aR o :: St) S := ev_go i226_15 rfl
theorem i226_16 : insAt 226 16 = some (.iload 4, 2, (0, 0, 0, 0), 0) := rfl
theorem s226_16 {c : Nat → List AV → SS → Option Out} {l0 l1 l2 l3 l5 l6 l7 : Option AV} {x : Int32} {L2 : List (Nat × AV)} {St : List AV} {S : SS} : ev c 226 16 [l0, l1, l2, l3, some (aI x), l5, l6, l7] L2 St S = ev c 226 18 [l0, l1, l2, l3, some (aI x), l5, l6, l7] L2 (aI x :: St) S := ev_go i226_16 rfl
theorem i226_18 : insAt 226 18 = some (.putfield 47, 3, (12, 12, 0, 0), 376) := rfl
theorem s226_18 {c : Nat → List AV → SS → Option Out} {l0 l1 l2 l3 l4 l5 l6 l7 : Option AV} {j t : Nat} {x : Int32} {L2 : List (Nat × AV)} {St : List AV} {S : SS} : ev c 226 18 [l0, l1, l2, l3, l4, l5, l6, l7] L2 (aI x :: aR (12, j, t) :: St) S = ev c 226 21 [l0, l1, l2, l3, l4, l5, l6, l7] L2 St (setI S.1 (12, j, t) 12 x, S.2) := ev_go i226_18 rfl
theorem i226_21 : insAt 226 21 = some (.aload_n 0, 1, (0, 0, 0, 0), 0) := rfl
theorem s226_21 {c : Nat → List AV → SS → Option Out} {l1 l2 l3 l4 l5 l6 l7 : Option AV} {o : OId} {L2 : List (Nat × AV)} {St : List AV} {S : SS} : ev c 226 21 [some (aR o), l1, l2, l3, l4, l5, l6, l7] L2 St S = ev c 226 22 [some (aR o), l1, l2, l3, l4, l5, l6, l7] L2 (aR o :: St) S := ev_go i226_21 rfl
theorem i226_22 : insAt 226 22 = some (.iload 5, 2, (0, 0, 0, 0), 0) := rfl
theorem s226_22 {c : Nat → List AV → SS → Option Out} {l0 l1 l2 l3 l4 l6 l7 : Option AV} {x : Int32} {L2 : List (Nat × AV)} {St : List AV} {S : SS} : ev c 226 22 [l0, l1, l2, l3, l4, some (aI x), l6, l7] L2 St S = ev c 226 24 [l0, l1, l2, l3, l4, some (aI x), l6, l7] L2 (aI x :: St) S := ev_go i226_22 rfl
theorem i226_24 : insAt 226 24 = some (.putfield 50, 3, (12, 13, 0, 0), 377) := rfl
theorem s226_24 {c : Nat → List AV → SS → Option Out} {l0 l1 l2 l3 l4 l5 l6 l7 : Option AV} {j t : Nat} {x : Int32} {L2 : List (Nat × AV)} {St : List AV} {S : SS} : ev c 226 24 [l0, l1, l2, l3, l4, l5, l6, l7] L2 (aI x :: aR (12, j, t) :: St) S = ev c 226 27 [l0, l1, l2, l3, l4, l5, l6, l7] L2 St (setI S.1 (12, j, t) 13 x, S.2) := ev_go i226_24 rfl
theorem i226_27 : insAt 226 27 = some (.iconst 0, 1, (0, 0, 0, 0), 0) := rfl
theorem s226_27 {c : Nat → List AV → SS → Option Out} {l0 l1 l2 l3 l4 l5 l6 l7 : Option AV} {L2 : List (Nat × AV)} {St : List AV} {S : SS} : ev c 226 27 [l0, l1, l2, l3, l4, l5, l6, l7] L2 St S = ev c 226 28 [l0, l1, l2, l3, l4, l5, l6, l7] L2 (aI 0 :: St) S := ev_go i226_27 rfl
theorem i226_28 : insAt 226 28 = some (.istore 6, 2, (0, 0, 0, 0), 0) := rfl
theorem s226_28 {c : Nat → List AV → SS → Option Out} {l0 l1 l2 l3 l4 l5 l6 l7 : Option AV} {x : Int32} {L2 : List (Nat × AV)} {St : List AV} {S : SS} : ev c 226 28 [l0, l1, l2, l3, l4, l5, l6, l7] L2 (aI x :: St) S = ev c 226 30 [l0, l1, l2, l3, l4, l5, some (aI x), l7] (kil L2 6) St S := ev_go i226_28 rfl
theorem i226_30 : insAt 226 30 = some (.iload 6, 2, (0, 0, 0, 0), 0) := rfl
theorem s226_30 {c : Nat → List AV → SS → Option Out} {l0 l1 l2 l3 l4 l5 l7 : Option AV} {x : Int32} {L2 : List (Nat × AV)} {St : List AV} {S : SS} : ev c 226 30 [l0, l1, l2, l3, l4, l5, some (aI x), l7] L2 St S = ev c 226 32 [l0, l1, l2, l3, l4, l5, some (aI x), l7] L2 (aI x :: St) S := ev_go i226_30 rfl
theorem i226_32 : insAt 226 32 = some (.iconst 3, 1, (0, 0, 0, 0), 0) := rfl
theorem s226_32 {c : Nat → List AV → SS → Option Out} {l0 l1 l2 l3 l4 l5 l6 l7 : Option AV} {L2 : List (Nat × AV)} {St : List AV} {S : SS} : ev c 226 32 [l0, l1, l2, l3, l4, l5, l6, l7] L2 St S = ev c 226 33 [l0, l1, l2, l3, l4, l5, l6, l7] L2 (aI 3 :: St) S := ev_go i226_32 rfl
theorem i226_33 : insAt 226 33 = some (.if_icmp .ge 54, 3, (0, 0, 0, 0), 0) := rfl
theorem s226_33 {c : Nat → List AV → SS → Option Out} {l0 l1 l2 l3 l4 l5 l6 l7 : Option AV} {x y : Int32} {L2 : List (Nat × AV)} {St : List AV} {S : SS} : ev c 226 33 [l0, l1, l2, l3, l4, l5, l6, l7] L2 (aI y :: aI x :: St) S = if y ≤ x then ev c 226 87 [l0, l1, l2, l3, l4, l5, l6, l7] L2 St S else ev c 226 36 [l0, l1, l2, l3, l4, l5, l6, l7] L2 St S := ev_br i226_33 rfl
theorem i226_36 : insAt 226 36 = some (.aload_n 0, 1, (0, 0, 0, 0), 0) := rfl
theorem s226_36 {c : Nat → List AV → SS → Option Out} {l1 l2 l3 l4 l5 l6 l7 : Option AV} {o : OId} {L2 : List (Nat × AV)} {St : List AV} {S : SS} : ev c 226 36 [some (aR o), l1, l2, l3, l4, l5, l6, l7] L2 St S = ev c 226 37 [some (aR o), l1, l2, l3, l4, l5, l6, l7] L2 (aR o :: St) S := ev_go i226_36 rfl
theorem i226_37 : insAt 226 37 = some (.aload_n 0, 1, (0, 0, 0, 0), 0) := rfl
theorem s226_37 {c : Nat → List AV → SS → Option Out} {l1 l2 l3 l4 l5 l6 l7 : Option AV} {o : OId} {L2 : List (Nat × AV)} {St : List AV} {S : SS} : ev c 226 37 [some (aR o), l1, l2, l3, l4, l5, l6, l7] L2 St S = ev c 226 38 [some (aR o), l1, l2, l3, l4, l5, l6, l7] L2 (aR o :: St) S := ev_go i226_37 rfl
theorem i226_38 : insAt 226 38 = some (.getfield 7, 3, (12, 0, 0, 0), 364) := rfl
theorem s226_38 {c : Nat → List AV → SS → Option Out} {l0 l1 l2 l3 l4 l5 l6 l7 : Option AV} {j t : Nat} {L2 : List (Nat × AV)} {St : List AV} {S : SS} : ev c 226 38 [l0, l1, l2, l3, l4, l5, l6, l7] L2 (aR (12, j, t) :: St) S = ev c 226 41 [l0, l1, l2, l3, l4, l5, l6, l7] L2 (S.2.2.1 (12, j, t) 0 :: St) S := ev_go i226_38 rfl
theorem i226_41 : insAt 226 41 = some (.iconst 0, 1, (0, 0, 0, 0), 0) := rfl
theorem s226_41 {c : Nat → List AV → SS → Option Out} {l0 l1 l2 l3 l4 l5 l6 l7 : Option AV} {L2 : List (Nat × AV)} {St : List AV} {S : SS} : ev c 226 41 [l0, l1, l2, l3, l4, l5, l6, l7] L2 St S = ev c 226 42 [l0, l1, l2, l3, l4, l5, l6, l7] L2 (aI 0 :: St) S := ev_go i226_41 rfl
theorem i226_42 : insAt 226 42 = some (.aload_n 0, 1, (0, 0, 0, 0), 0) := rfl
theorem s226_42 {c : Nat → List AV → SS → Option Out} {l1 l2 l3 l4 l5 l6 l7 : Option AV} {o : OId} {L2 : List (Nat × AV)} {St : List AV} {S : SS} : ev c 226 42 [some (aR o), l1, l2, l3, l4, l5, l6, l7] L2 St S = ev c 226 43 [some (aR o), l1, l2, l3, l4, l5, l6, l7] L2 (aR o :: St) S := ev_go i226_42 rfl
theorem i226_43 : insAt 226 43 = some (.getfield 19, 3, (12, 3, 0, 0), 367) := rfl
theorem s226_43 {c : Nat → List AV → SS → Option Out} {l0 l1 l2 l3 l4 l5 l6 l7 : Option AV} {j t : Nat} {L2 : List (Nat × AV)} {St : List AV} {S : SS} : ev c 226 43 [l0, l1, l2, l3, l4, l5, l6, l7] L2 (aR (12, j, t) :: St) S = ev c 226 46 [l0, l1, l2, l3, l4, l5, l6, l7] L2 (S.2.2.1 (12, j, t) 3 :: St) S := ev_go i226_43 rfl
theorem i226_46 : insAt 226 46 = some (.iconst 0, 1, (0, 0, 0, 0), 0) := rfl
theorem s226_46 {c : Nat → List AV → SS → Option Out} {l0 l1 l2 l3 l4 l5 l6 l7 : Option AV} {L2 : List (Nat × AV)} {St : List AV} {S : SS} : ev c 226 46 [l0, l1, l2, l3, l4, l5, l6, l7] L2 St S = ev c 226 47 [l0, l1, l2, l3, l4, l5, l6, l7] L2 (aI 0 :: St) S := ev_go i226_46 rfl
theorem i226_47 : insAt 226 47 = some (.invokevirtual 71, 3, (218, 4, 2, 12), 385) := rfl
theorem s226_47 {c : Nat → List AV → SS → Option Out} {l0 l1 l2 l3 l4 l5 l6 l7 : Option AV} {a0 : OId} {a1 : Int32} {a2 : OId} {a3 : Int32} {j t : Nat} {L2 : List (Nat × AV)} {S : SS} : ev c 226 47 [l0, l1, l2, l3, l4, l5, l6, l7] L2 [aI a3, aR a2, aI a1, aR a0, aR (12, j, t)] S = ck (c 218 [aR (12, j, t), aR a0, aI a1, aR a2, aI a3] S) (fun v S' => ev c 226 50 [l0, l1, l2, l3, l4, l5, l6, l7] L2 (v.toList ++ []) S') := ev_call i226_47 rfl
theorem i226_50 : insAt 226 50 = some (.aload_n 0, 1, (0, 0, 0, 0), 0) := rfl
theorem s226_50 {c : Nat → List AV → SS → Option Out} {l1 l2 l3 l4 l5 l6 l7 : Option AV} {o : OId} {L2 : List (Nat × AV)} {St : List AV} {S : SS} : ev c 226 50 [some (aR o), l1, l2, l3, l4, l5, l6, l7] L2 St S = ev c 226 51 [some (aR o), l1, l2, l3, l4, l5, l6, l7] L2 (aR o :: St) S := ev_go i226_50 rfl
theorem i226_51 : insAt 226 51 = some (.iconst 0, 1, (0, 0, 0, 0), 0) := rfl
theorem s226_51 {c : Nat → List AV → SS → Option Out} {l0 l1 l2 l3 l4 l5 l6 l7 : Option AV} {L2 : List (Nat × AV)} {St : List AV} {S : SS} : ev c 226 51 [l0, l1, l2, l3, l4, l5, l6, l7] L2 St S = ev c 226 52 [l0, l1, l2, l3, l4, l5, l6, l7] L2 (aI 0 :: St) S := ev_go i226_51 rfl
theorem i226_52 : insAt 226 52 = some (.iload 6, 2, (0, 0, 0, 0), 0) := rfl
theorem s226_52 {c : Nat → List AV → SS → Option Out} {l0 l1 l2 l3 l4 l5 l7 : Option AV} {x : Int32} {L2 : List (Nat × AV)} {St : List AV} {S : SS} : ev c 226 52 [l0, l1, l2, l3, l4, l5, some (aI x), l7] L2 St S = ev c 226 54 [l0, l1, l2, l3, l4, l5, some (aI x), l7] L2 (aI x :: St) S := ev_go i226_52 rfl
theorem i226_54 : insAt 226 54 = some (.invokevirtual 137, 3, (227, 2, 2, 12), 393) := rfl
theorem s226_54 {c : Nat → List AV → SS → Option Out} {l0 l1 l2 l3 l4 l5 l6 l7 : Option AV} {a0 : Int32} {a1 : Int32} {j t : Nat} {L2 : List (Nat × AV)} {S : SS} : ev c 226 54 [l0, l1, l2, l3, l4, l5, l6, l7] L2 [aI a1, aI a0, aR (12, j, t)] S = ck (c 227 [aR (12, j, t), aI a0, aI a1] S) (fun v S' => ev c 226 57 [l0, l1, l2, l3, l4, l5, l6, l7] L2 (v.toList ++ []) S') := ev_call i226_54 rfl
theorem i226_57 : insAt 226 57 = some (.istore 7, 2, (0, 0, 0, 0), 0) := rfl
theorem s226_57 {c : Nat → List AV → SS → Option Out} {l0 l1 l2 l3 l4 l5 l6 l7 : Option AV} {x : Int32} {L2 : List (Nat × AV)} {St : List AV} {S : SS} : ev c 226 57 [l0, l1, l2, l3, l4, l5, l6, l7] L2 (aI x :: St) S = ev c 226 59 [l0, l1, l2, l3, l4, l5, l6, some (aI x)] (kil L2 7) St S := ev_go i226_57 rfl
theorem i226_59 : insAt 226 59 = some (.aload_n 0, 1, (0, 0, 0, 0), 0) := rfl
theorem s226_59 {c : Nat → List AV → SS → Option Out} {l1 l2 l3 l4 l5 l6 l7 : Option AV} {o : OId} {L2 : List (Nat × AV)} {St : List AV} {S : SS} : ev c 226 59 [some (aR o), l1, l2, l3, l4, l5, l6, l7] L2 St S = ev c 226 60 [some (aR o), l1, l2, l3, l4, l5, l6, l7] L2 (aR o :: St) S := ev_go i226_59 rfl
theorem i226_60 : insAt 226 60 = some (.aload_n 0, 1, (0, 0, 0, 0), 0) := rfl
theorem s226_60 {c : Nat → List AV → SS → Option Out} {l1 l2 l3 l4 l5 l6 l7 : Option AV} {o : OId} {L2 : List (Nat × AV)} {St : List AV} {S : SS} : ev c 226 60 [some (aR o), l1, l2, l3, l4, l5, l6, l7] L2 St S = ev c 226 61 [some (aR o), l1, l2, l3, l4, l5, l6, l7] L2 (aR o :: St) S := ev_go i226_60 rfl
theorem i226_61 : insAt 226 61 = some (.getfield 19, 3, (12, 3, 0, 0), 367) := rfl
theorem s226_61 {c : Nat → List AV → SS → Option Out} {l0 l1 l2 l3 l4 l5 l6 l7 : Option AV} {j t : Nat} {L2 : List (Nat × AV)} {St : List AV} {S : SS} : ev c 226 61 [l0, l1, l2, l3, l4, l5, l6, l7] L2 (aR (12, j, t) :: St) S = ev c 226 64 [l0, l1, l2, l3, l4, l5, l6, l7] L2 (S.2.2.1 (12, j, t) 3 :: St) S := ev_go i226_61 rfl
theorem i226_64 : insAt 226 64 = some (.iconst 0, 1, (0, 0, 0, 0), 0) := rfl
theorem s226_64 {c : Nat → List AV → SS → Option Out} {l0 l1 l2 l3 l4 l5 l6 l7 : Option AV} {L2 : List (Nat × AV)} {St : List AV} {S : SS} : ev c 226 64 [l0, l1, l2, l3, l4, l5, l6, l7] L2 St S = ev c 226 65 [l0, l1, l2, l3, l4, l5, l6, l7] L2 (aI 0 :: St) S := ev_go i226_64 rfl
theorem i226_65 : insAt 226 65 = some (.aload_n 0, 1, (0, 0, 0, 0), 0) := rfl
theorem s226_65 {c : Nat → List AV → SS → Option Out} {l1 l2 l3 l4 l5 l6 l7 : Option AV} {o : OId} {L2 : List (Nat × AV)} {St : List AV} {S : SS} : ev c 226 65 [some (aR o), l1, l2, l3, l4, l5, l6, l7] L2 St S = ev c 226 66 [some (aR o), l1, l2, l3, l4, l5, l6, l7] L2 (aR o :: St) S := ev_go i226_65 rfl
theorem i226_66 : insAt 226 66 = some (.getfield 7, 3, (12, 0, 0, 0), 364) := rfl
theorem s226_66 {c : Nat → List AV → SS → Option Out} {l0 l1 l2 l3 l4 l5 l6 l7 : Option AV} {j t : Nat} {L2 : List (Nat × AV)} {St : List AV} {S : SS} : ev c 226 66 [l0, l1, l2, l3, l4, l5, l6, l7] L2 (aR (12, j, t) :: St) S = ev c 226 69 [l0, l1, l2, l3, l4, l5, l6, l7] L2 (S.2.2.1 (12, j, t) 0 :: St) S := ev_go i226_66 rfl
theorem i226_69 : insAt 226 69 = some (.iconst 0, 1, (0, 0, 0, 0), 0) := rfl
theorem s226_69 {c : Nat → List AV → SS → Option Out} {l0 l1 l2 l3 l4 l5 l6 l7 : Option AV} {L2 : List (Nat × AV)} {St : List AV} {S : SS} : ev c 226 69 [l0, l1, l2, l3, l4, l5, l6, l7] L2 St S = ev c 226 70 [l0, l1, l2, l3, l4, l5, l6, l7] L2 (aI 0 :: St) S := ev_go i226_69 rfl
theorem i226_70 : insAt 226 70 = some (.invokevirtual 71, 3, (218, 4, 2, 12), 385) := rfl
theorem s226_70 {c : Nat → List AV → SS → Option Out} {l0 l1 l2 l3 l4 l5 l6 l7 : Option AV} {a0 : OId} {a1 : Int32} {a2 : OId} {a3 : Int32} {j t : Nat} {L2 : List (Nat × AV)} {S : SS} : ev c 226 70 [l0, l1, l2, l3, l4, l5, l6, l7] L2 [aI a3, aR a2, aI a1, aR a0, aR (12, j, t)] S = ck (c 218 [aR (12, j, t), aR a0, aI a1, aR a2, aI a3] S) (fun v S' => ev c 226 73 [l0, l1, l2, l3, l4, l5, l6, l7] L2 (v.toList ++ []) S') := ev_call i226_70 rfl
theorem i226_73 : insAt 226 73 = some (.iload 7, 2, (0, 0, 0, 0), 0) := rfl
theorem s226_73 {c : Nat → List AV → SS → Option Out} {l0 l1 l2 l3 l4 l5 l6 : Option AV} {x : Int32} {L2 : List (Nat × AV)} {St : List AV} {S : SS} : ev c 226 73 [l0, l1, l2, l3, l4, l5, l6, some (aI x)] L2 St S = ev c 226 75 [l0, l1, l2, l3, l4, l5, l6, some (aI x)] L2 (aI x :: St) S := ev_go i226_73 rfl
theorem i226_75 : insAt 226 75 = some (.ifCond .eq 6, 3, (0, 0, 0, 0), 0) := rfl
theorem s226_75 {c : Nat → List AV → SS → Option Out} {l0 l1 l2 l3 l4 l5 l6 l7 : Option AV} {x : Int32} {L2 : List (Nat × AV)} {St : List AV} {S : SS} : ev c 226 75 [l0, l1, l2, l3, l4, l5, l6, l7] L2 (aI x :: St) S = if x = 0 then ev c 226 81 [l0, l1, l2, l3, l4, l5, l6, l7] L2 St S else ev c 226 78 [l0, l1, l2, l3, l4, l5, l6, l7] L2 St S := ev_br i226_75 rfl
theorem i226_78 : insAt 226 78 = some (.iload 6, 2, (0, 0, 0, 0), 0) := rfl
theorem s226_78 {c : Nat → List AV → SS → Option Out} {l0 l1 l2 l3 l4 l5 l7 : Option AV} {x : Int32} {L2 : List (Nat × AV)} {St : List AV} {S : SS} : ev c 226 78 [l0, l1, l2, l3, l4, l5, some (aI x), l7] L2 St S = ev c 226 80 [l0, l1, l2, l3, l4, l5, some (aI x), l7] L2 (aI x :: St) S := ev_go i226_78 rfl
theorem i226_80 : insAt 226 80 = some (.ireturn, 1, (0, 0, 0, 0), 0) := rfl
theorem s226_80 {c : Nat → List AV → SS → Option Out} {l0 l1 l2 l3 l4 l5 l6 l7 : Option AV} {x : Int32} {L2 : List (Nat × AV)} {S : SS} : ev c 226 80 [l0, l1, l2, l3, l4, l5, l6, l7] L2 [aI x] S = some (.inl (some (aI x)), S) := ev_end i226_80 rfl
theorem i226_81 : insAt 226 81 = some (.iinc 6 1, 3, (0, 0, 0, 0), 0) := rfl
theorem s226_81 {c : Nat → List AV → SS → Option Out} {l0 l1 l2 l3 l4 l5 l7 : Option AV} {x : Int32} {L2 : List (Nat × AV)} {St : List AV} {S : SS} : ev c 226 81 [l0, l1, l2, l3, l4, l5, some (aI x), l7] L2 St S = ev c 226 84 [l0, l1, l2, l3, l4, l5, some (aI (x + 1)), l7] (kil L2 6) St S := ev_go i226_81 rfl
theorem i226_84 : insAt 226 84 = some (.goto (-54), 3, (0, 0, 0, 0), 0) := rfl
theorem s226_84 {c : Nat → List AV → SS → Option Out} {l0 l1 l2 l3 l4 l5 l6 l7 : Option AV} {L2 : List (Nat × AV)} {St : List AV} {S : SS} : ev c 226 84 [l0, l1, l2, l3, l4, l5, l6, l7] L2 St S = ev c 226 30 [l0, l1, l2, l3, l4, l5, l6, l7] L2 St S := ev_go i226_84 rfl
theorem i226_87 : insAt 226 87 = some (.iconst (-1), 1, (0, 0, 0, 0), 0) := rfl
theorem s226_87 {c : Nat → List AV → SS → Option Out} {l0 l1 l2 l3 l4 l5 l6 l7 : Option AV} {L2 : List (Nat × AV)} {St : List AV} {S : SS} : ev c 226 87 [l0, l1, l2, l3, l4, l5, l6, l7] L2 St S = ev c 226 88 [l0, l1, l2, l3, l4, l5, l6, l7] L2 (aI (-1) :: St) S := ev_go i226_87 rfl
theorem i226_88 : insAt 226 88 = some (.ireturn, 1, (0, 0, 0, 0), 0) := rfl
theorem s226_88 {c : Nat → List AV → SS → Option Out} {l0 l1 l2 l3 l4 l5 l6 l7 : Option AV} {x : Int32} {L2 : List (Nat × AV)} {S : SS} : ev c 226 88 [l0, l1, l2, l3, l4, l5, l6, l7] L2 [aI x] S = some (.inl (some (aI x)), S) := ev_end i226_88 rfl
theorem m226 {d : Nat} {o : OId} {a0 : Int32} {a1 : Int32} {a2 : Int32} {a3 : Int32} {a4 : Int32} {S : SS} : evm (d + 1) 226 [aR o, aI a0, aI a1, aI a2, aI a3, aI a4] S = ev (evm d) 226 0 [some (aR o), some (aI a0), some (aI a1), some (aI a2), some (aI a3), some (aI a4), none, none] [] [] S := evm_s (n := 8) rfl (Nat.le_of_ble_eq_true rfl) rfl rfl
/-! FrequencyOfficeModel.plans(II)Z -/
theorem i227_0 : insAt 227 0 = some (.iload_n 2, 1, (0, 0, 0, 0), 0) := rfl
theorem s227_0 {c : Nat → List AV → SS → Option Out} {l0 l1 l3 l4 l5 : Option AV} {x : Int32} {L2 : List (Nat × AV)} {St : List AV} {S : SS} : ev c 227 0 [l0, l1, some (aI x), l3, l4, l5] L2 St S = ev c 227 1 [l0, l1, some (aI x), l3, l4, l5] L2 (aI x :: St) S := ev_go i227_0 rfl
theorem i227_1 : insAt 227 1 = some (.ifCond .ne 24, 3, (0, 0, 0, 0), 0) := rfl
theorem s227_1 {c : Nat → List AV → SS → Option Out} {l0 l1 l2 l3 l4 l5 : Option AV} {x : Int32} {L2 : List (Nat × AV)} {St : List AV} {S : SS} : ev c 227 1 [l0, l1, l2, l3, l4, l5] L2 (aI x :: St) S = if x = 0 then ev c 227 4 [l0, l1, l2, l3, l4, l5] L2 St S else ev c 227 25 [l0, l1, l2, l3, l4, l5] L2 St S := (ev_br i227_1 rfl).trans (ite_not _ _ _)
theorem i227_4 : insAt 227 4 = some (.aload_n 0, 1, (0, 0, 0, 0), 0) := rfl
theorem s227_4 {c : Nat → List AV → SS → Option Out} {l1 l2 l3 l4 l5 : Option AV} {o : OId} {L2 : List (Nat × AV)} {St : List AV} {S : SS} : ev c 227 4 [some (aR o), l1, l2, l3, l4, l5] L2 St S = ev c 227 5 [some (aR o), l1, l2, l3, l4, l5] L2 (aR o :: St) S := ev_go i227_4 rfl
theorem i227_5 : insAt 227 5 = some (.aload_n 0, 1, (0, 0, 0, 0), 0) := rfl
theorem s227_5 {c : Nat → List AV → SS → Option Out} {l1 l2 l3 l4 l5 : Option AV} {o : OId} {L2 : List (Nat × AV)} {St : List AV} {S : SS} : ev c 227 5 [some (aR o), l1, l2, l3, l4, l5] L2 St S = ev c 227 6 [some (aR o), l1, l2, l3, l4, l5] L2 (aR o :: St) S := ev_go i227_5 rfl
theorem i227_6 : insAt 227 6 = some (.invokevirtual 129, 3, (228, 0, 2, 12), 394) := rfl
theorem s227_6 {c : Nat → List AV → SS → Option Out} {l0 l1 l2 l3 l4 l5 : Option AV} {t0 : AV} {j t : Nat} {L2 : List (Nat × AV)} {S : SS} : ev c 227 6 [l0, l1, l2, l3, l4, l5] L2 [aR (12, j, t), t0] S = ck (c 228 [aR (12, j, t)] S) (fun v S' => ev c 227 9 [l0, l1, l2, l3, l4, l5] L2 (v.toList ++ [t0]) S') := ev_call i227_6 rfl
theorem i227_9 : insAt 227 9 = some (.putfield 53, 3, (12, 14, 0, 0), 378) := rfl
theorem s227_9 {c : Nat → List AV → SS → Option Out} {l0 l1 l2 l3 l4 l5 : Option AV} {j t : Nat} {x : Int32} {L2 : List (Nat × AV)} {St : List AV} {S : SS} : ev c 227 9 [l0, l1, l2, l3, l4, l5] L2 (aI x :: aR (12, j, t) :: St) S = ev c 227 12 [l0, l1, l2, l3, l4, l5] L2 St (setI S.1 (12, j, t) 14 x, S.2) := ev_go i227_9 rfl
theorem i227_12 : insAt 227 12 = some (.aload_n 0, 1, (0, 0, 0, 0), 0) := rfl
theorem s227_12 {c : Nat → List AV → SS → Option Out} {l1 l2 l3 l4 l5 : Option AV} {o : OId} {L2 : List (Nat × AV)} {St : List AV} {S : SS} : ev c 227 12 [some (aR o), l1, l2, l3, l4, l5] L2 St S = ev c 227 13 [some (aR o), l1, l2, l3, l4, l5] L2 (aR o :: St) S := ev_go i227_12 rfl
theorem i227_13 : insAt 227 13 = some (.getfield 53, 3, (12, 14, 0, 0), 378) := rfl
theorem s227_13 {c : Nat → List AV → SS → Option Out} {l0 l1 l2 l3 l4 l5 : Option AV} {j t : Nat} {L2 : List (Nat × AV)} {St : List AV} {S : SS} : ev c 227 13 [l0, l1, l2, l3, l4, l5] L2 (aR (12, j, t) :: St) S = ev c 227 16 [l0, l1, l2, l3, l4, l5] L2 (aI (S.1 (12, j, t) 14) :: St) S := ev_go i227_13 rfl
theorem i227_16 : insAt 227 16 = some (.ifCond .lt 7, 3, (0, 0, 0, 0), 0) := rfl
theorem s227_16 {c : Nat → List AV → SS → Option Out} {l0 l1 l2 l3 l4 l5 : Option AV} {x : Int32} {L2 : List (Nat × AV)} {St : List AV} {S : SS} : ev c 227 16 [l0, l1, l2, l3, l4, l5] L2 (aI x :: St) S = if x < 0 then ev c 227 23 [l0, l1, l2, l3, l4, l5] L2 St S else ev c 227 19 [l0, l1, l2, l3, l4, l5] L2 St S := ev_br i227_16 rfl
theorem i227_19 : insAt 227 19 = some (.iconst 1, 1, (0, 0, 0, 0), 0) := rfl
theorem s227_19 {c : Nat → List AV → SS → Option Out} {l0 l1 l2 l3 l4 l5 : Option AV} {L2 : List (Nat × AV)} {St : List AV} {S : SS} : ev c 227 19 [l0, l1, l2, l3, l4, l5] L2 St S = ev c 227 20 [l0, l1, l2, l3, l4, l5] L2 (aI 1 :: St) S := ev_go i227_19 rfl
theorem i227_20 : insAt 227 20 = some (.goto 4, 3, (0, 0, 0, 0), 0) := rfl
theorem s227_20 {c : Nat → List AV → SS → Option Out} {l0 l1 l2 l3 l4 l5 : Option AV} {L2 : List (Nat × AV)} {St : List AV} {S : SS} : ev c 227 20 [l0, l1, l2, l3, l4, l5] L2 St S = ev c 227 24 [l0, l1, l2, l3, l4, l5] L2 St S := ev_go i227_20 rfl
theorem i227_23 : insAt 227 23 = some (.iconst 0, 1, (0, 0, 0, 0), 0) := rfl
theorem s227_23 {c : Nat → List AV → SS → Option Out} {l0 l1 l2 l3 l4 l5 : Option AV} {L2 : List (Nat × AV)} {St : List AV} {S : SS} : ev c 227 23 [l0, l1, l2, l3, l4, l5] L2 St S = ev c 227 24 [l0, l1, l2, l3, l4, l5] L2 (aI 0 :: St) S := ev_go i227_23 rfl
theorem i227_24 : insAt 227 24 = some (.ireturn, 1, (0, 0, 0, 0), 0) := rfl
theorem s227_24 {c : Nat → List AV → SS → Option Out} {l0 l1 l2 l3 l4 l5 : Option AV} {x : Int32} {L2 : List (Nat × AV)} {S : SS} : ev c 227 24 [l0, l1, l2, l3, l4, l5] L2 [aI x] S = if x = 0 ∨ x = 1 then some (.inl (some (aI x)), S) else none := ev_rt i227_24 rfl
theorem i227_25 : insAt 227 25 = some (.iconst 0, 1, (0, 0, 0, 0), 0) := rfl
theorem s227_25 {c : Nat → List AV → SS → Option Out} {l0 l1 l2 l3 l4 l5 : Option AV} {L2 : List (Nat × AV)} {St : List AV} {S : SS} : ev c 227 25 [l0, l1, l2, l3, l4, l5] L2 St S = ev c 227 26 [l0, l1, l2, l3, l4, l5] L2 (aI 0 :: St) S := ev_go i227_25 rfl
theorem i227_26 : insAt 227 26 = some (.istore_n 3, 1, (0, 0, 0, 0), 0) := rfl
theorem s227_26 {c : Nat → List AV → SS → Option Out} {l0 l1 l2 l3 l4 l5 : Option AV} {x : Int32} {L2 : List (Nat × AV)} {St : List AV} {S : SS} : ev c 227 26 [l0, l1, l2, l3, l4, l5] L2 (aI x :: St) S = ev c 227 27 [l0, l1, l2, some (aI x), l4, l5] (kil L2 3) St S := ev_go i227_26 rfl
theorem i227_27 : insAt 227 27 = some (.iload_n 3, 1, (0, 0, 0, 0), 0) := rfl
theorem s227_27 {c : Nat → List AV → SS → Option Out} {l0 l1 l2 l4 l5 : Option AV} {x : Int32} {L2 : List (Nat × AV)} {St : List AV} {S : SS} : ev c 227 27 [l0, l1, l2, some (aI x), l4, l5] L2 St S = ev c 227 28 [l0, l1, l2, some (aI x), l4, l5] L2 (aI x :: St) S := ev_go i227_27 rfl
theorem i227_28 : insAt 227 28 = some (.aload_n 0, 1, (0, 0, 0, 0), 0) := rfl
theorem s227_28 {c : Nat → List AV → SS → Option Out} {l1 l2 l3 l4 l5 : Option AV} {o : OId} {L2 : List (Nat × AV)} {St : List AV} {S : SS} : ev c 227 28 [some (aR o), l1, l2, l3, l4, l5] L2 St S = ev c 227 29 [some (aR o), l1, l2, l3, l4, l5] L2 (aR o :: St) S := ev_go i227_28 rfl
theorem i227_29 : insAt 227 29 = some (.getfield 7, 3, (12, 0, 0, 0), 364) := rfl
theorem s227_29 {c : Nat → List AV → SS → Option Out} {l0 l1 l2 l3 l4 l5 : Option AV} {j t : Nat} {L2 : List (Nat × AV)} {St : List AV} {S : SS} : ev c 227 29 [l0, l1, l2, l3, l4, l5] L2 (aR (12, j, t) :: St) S = ev c 227 32 [l0, l1, l2, l3, l4, l5] L2 (S.2.2.1 (12, j, t) 0 :: St) S := ev_go i227_29 rfl
theorem i227_32 : insAt 227 32 = some (.bipush 7, 2, (0, 0, 0, 0), 0) := rfl
theorem s227_32 {c : Nat → List AV → SS → Option Out} {l0 l1 l2 l3 l4 l5 : Option AV} {L2 : List (Nat × AV)} {St : List AV} {S : SS} : ev c 227 32 [l0, l1, l2, l3, l4, l5] L2 St S = ev c 227 34 [l0, l1, l2, l3, l4, l5] L2 (aI 7 :: St) S := ev_go i227_32 rfl
theorem i227_34 : insAt 227 34 = some (.iaload, 1, (0, 0, 0, 0), 0) := rfl
theorem s227_34 {c : Nat → List AV → SS → Option Out} {l0 l1 l2 l3 l4 l5 : Option AV} {i : Int32} {o : OId} {L2 : List (Nat × AV)} {St : List AV} {S : SS} : ev c 227 34 [l0, l1, l2, l3, l4, l5] L2 (aI i :: aR o :: St) S = kI o i (ev c 227 35 [l0, l1, l2, l3, l4, l5] L2 (aI (agI S o i.toNatClampNeg) :: St) S) := ev_iaload i227_34
theorem i227_35 : insAt 227 35 = some (.if_icmp .ge 92, 3, (0, 0, 0, 0), 0) := rfl
theorem s227_35 {c : Nat → List AV → SS → Option Out} {l0 l1 l2 l3 l4 l5 : Option AV} {x y : Int32} {L2 : List (Nat × AV)} {St : List AV} {S : SS} : ev c 227 35 [l0, l1, l2, l3, l4, l5] L2 (aI y :: aI x :: St) S = if y ≤ x then ev c 227 127 [l0, l1, l2, l3, l4, l5] L2 St S else ev c 227 38 [l0, l1, l2, l3, l4, l5] L2 St S := ev_br i227_35 rfl
theorem i227_38 : insAt 227 38 = some (.iconst 0, 1, (0, 0, 0, 0), 0) := rfl
theorem s227_38 {c : Nat → List AV → SS → Option Out} {l0 l1 l2 l3 l4 l5 : Option AV} {L2 : List (Nat × AV)} {St : List AV} {S : SS} : ev c 227 38 [l0, l1, l2, l3, l4, l5] L2 St S = ev c 227 39 [l0, l1, l2, l3, l4, l5] L2 (aI 0 :: St) S := ev_go i227_38 rfl
theorem i227_39 : insAt 227 39 = some (.istore 4, 2, (0, 0, 0, 0), 0) := rfl
theorem s227_39 {c : Nat → List AV → SS → Option Out} {l0 l1 l2 l3 l4 l5 : Option AV} {x : Int32} {L2 : List (Nat × AV)} {St : List AV} {S : SS} : ev c 227 39 [l0, l1, l2, l3, l4, l5] L2 (aI x :: St) S = ev c 227 41 [l0, l1, l2, l3, some (aI x), l5] (kil L2 4) St S := ev_go i227_39 rfl
theorem i227_41 : insAt 227 41 = some (.iload 4, 2, (0, 0, 0, 0), 0) := rfl
theorem s227_41 {c : Nat → List AV → SS → Option Out} {l0 l1 l2 l3 l5 : Option AV} {x : Int32} {L2 : List (Nat × AV)} {St : List AV} {S : SS} : ev c 227 41 [l0, l1, l2, l3, some (aI x), l5] L2 St S = ev c 227 43 [l0, l1, l2, l3, some (aI x), l5] L2 (aI x :: St) S := ev_go i227_41 rfl
theorem i227_43 : insAt 227 43 = some (.bipush 8, 2, (0, 0, 0, 0), 0) := rfl
theorem s227_43 {c : Nat → List AV → SS → Option Out} {l0 l1 l2 l3 l4 l5 : Option AV} {L2 : List (Nat × AV)} {St : List AV} {S : SS} : ev c 227 43 [l0, l1, l2, l3, l4, l5] L2 St S = ev c 227 45 [l0, l1, l2, l3, l4, l5] L2 (aI 8 :: St) S := ev_go i227_43 rfl
theorem i227_45 : insAt 227 45 = some (.if_icmp .ge 76, 3, (0, 0, 0, 0), 0) := rfl
theorem s227_45 {c : Nat → List AV → SS → Option Out} {l0 l1 l2 l3 l4 l5 : Option AV} {x y : Int32} {L2 : List (Nat × AV)} {St : List AV} {S : SS} : ev c 227 45 [l0, l1, l2, l3, l4, l5] L2 (aI y :: aI x :: St) S = if y ≤ x then ev c 227 121 [l0, l1, l2, l3, l4, l5] L2 St S else ev c 227 48 [l0, l1, l2, l3, l4, l5] L2 St S := ev_br i227_45 rfl
theorem i227_48 : insAt 227 48 = some (.aload_n 0, 1, (0, 0, 0, 0), 0) := rfl
theorem s227_48 {c : Nat → List AV → SS → Option Out} {l1 l2 l3 l4 l5 : Option AV} {o : OId} {L2 : List (Nat × AV)} {St : List AV} {S : SS} : ev c 227 48 [some (aR o), l1, l2, l3, l4, l5] L2 St S = ev c 227 49 [some (aR o), l1, l2, l3, l4, l5] L2 (aR o :: St) S := ev_go i227_48 rfl
theorem i227_49 : insAt 227 49 = some (.iload_n 3, 1, (0, 0, 0, 0), 0) := rfl
theorem s227_49 {c : Nat → List AV → SS → Option Out} {l0 l1 l2 l4 l5 : Option AV} {x : Int32} {L2 : List (Nat × AV)} {St : List AV} {S : SS} : ev c 227 49 [l0, l1, l2, some (aI x), l4, l5] L2 St S = ev c 227 50 [l0, l1, l2, some (aI x), l4, l5] L2 (aI x :: St) S := ev_go i227_49 rfl
theorem i227_50 : insAt 227 50 = some (.iload 4, 2, (0, 0, 0, 0), 0) := rfl
theorem s227_50 {c : Nat → List AV → SS → Option Out} {l0 l1 l2 l3 l5 : Option AV} {x : Int32} {L2 : List (Nat × AV)} {St : List AV} {S : SS} : ev c 227 50 [l0, l1, l2, l3, some (aI x), l5] L2 St S = ev c 227 52 [l0, l1, l2, l3, some (aI x), l5] L2 (aI x :: St) S := ev_go i227_50 rfl
theorem i227_52 : insAt 227 52 = some (.invokevirtual 133, 3, (239, 2, 2, 12), 395) := rfl
theorem s227_52 {c : Nat → List AV → SS → Option Out} {l0 l1 l2 l3 l4 l5 : Option AV} {a0 : Int32} {a1 : Int32} {j t : Nat} {L2 : List (Nat × AV)} {S : SS} : ev c 227 52 [l0, l1, l2, l3, l4, l5] L2 [aI a1, aI a0, aR (12, j, t)] S = ck (c 239 [aR (12, j, t), aI a0, aI a1] S) (fun v S' => ev c 227 55 [l0, l1, l2, l3, l4, l5] L2 (v.toList ++ []) S') := ev_call i227_52 rfl
theorem i227_55 : insAt 227 55 = some (.ifCond .ne 6, 3, (0, 0, 0, 0), 0) := rfl
theorem s227_55 {c : Nat → List AV → SS → Option Out} {l0 l1 l2 l3 l4 l5 : Option AV} {x : Int32} {L2 : List (Nat × AV)} {St : List AV} {S : SS} : ev c 227 55 [l0, l1, l2, l3, l4, l5] L2 (aI x :: St) S = if x = 0 then ev c 227 58 [l0, l1, l2, l3, l4, l5] L2 St S else ev c 227 61 [l0, l1, l2, l3, l4, l5] L2 St S := (ev_br i227_55 rfl).trans (ite_not _ _ _)
theorem i227_58 : insAt 227 58 = some (.goto 57, 3, (0, 0, 0, 0), 0) := rfl
theorem s227_58 {c : Nat → List AV → SS → Option Out} {l0 l1 l2 l3 l4 l5 : Option AV} {L2 : List (Nat × AV)} {St : List AV} {S : SS} : ev c 227 58 [l0, l1, l2, l3, l4, l5] L2 St S = ev c 227 115 [l0, l1, l2, l3, l4, l5] L2 St S := ev_go i227_58 rfl
theorem i227_61 : insAt 227 61 = some (.aload_n 0, 1, (0, 0, 0, 0), 0) := rfl
theorem s227_61 {c : Nat → List AV → SS → Option Out} {l1 l2 l3 l4 l5 : Option AV} {o : OId} {L2 : List (Nat × AV)} {St : List AV} {S : SS} : ev c 227 61 [some (aR o), l1, l2, l3, l4, l5] L2 St S = ev c 227 62 [some (aR o), l1, l2, l3, l4, l5] L2 (aR o :: St) S := ev_go i227_61 rfl
theorem i227_62 : insAt 227 62 = some (.iload_n 3, 1, (0, 0, 0, 0), 0) := rfl
theorem s227_62 {c : Nat → List AV → SS → Option Out} {l0 l1 l2 l4 l5 : Option AV} {x : Int32} {L2 : List (Nat × AV)} {St : List AV} {S : SS} : ev c 227 62 [l0, l1, l2, some (aI x), l4, l5] L2 St S = ev c 227 63 [l0, l1, l2, some (aI x), l4, l5] L2 (aI x :: St) S := ev_go i227_62 rfl
theorem i227_63 : insAt 227 63 = some (.iconst 3, 1, (0, 0, 0, 0), 0) := rfl
theorem s227_63 {c : Nat → List AV → SS → Option Out} {l0 l1 l2 l3 l4 l5 : Option AV} {L2 : List (Nat × AV)} {St : List AV} {S : SS} : ev c 227 63 [l0, l1, l2, l3, l4, l5] L2 St S = ev c 227 64 [l0, l1, l2, l3, l4, l5] L2 (aI 3 :: St) S := ev_go i227_63 rfl
theorem i227_64 : insAt 227 64 = some (.invokevirtual 75, 3, (231, 2, 2, 12), 396) := rfl
theorem s227_64 {c : Nat → List AV → SS → Option Out} {l0 l1 l2 l3 l4 l5 : Option AV} {a0 : Int32} {a1 : Int32} {j t : Nat} {L2 : List (Nat × AV)} {S : SS} : ev c 227 64 [l0, l1, l2, l3, l4, l5] L2 [aI a1, aI a0, aR (12, j, t)] S = ck (c 231 [aR (12, j, t), aI a0, aI a1] S) (fun v S' => ev c 227 67 [l0, l1, l2, l3, l4, l5] L2 (v.toList ++ []) S') := ev_call i227_64 rfl
theorem i227_67 : insAt 227 67 = some (.istore 5, 2, (0, 0, 0, 0), 0) := rfl
theorem s227_67 {c : Nat → List AV → SS → Option Out} {l0 l1 l2 l3 l4 l5 : Option AV} {x : Int32} {L2 : List (Nat × AV)} {St : List AV} {S : SS} : ev c 227 67 [l0, l1, l2, l3, l4, l5] L2 (aI x :: St) S = ev c 227 69 [l0, l1, l2, l3, l4, some (aI x)] (kil L2 5) St S := ev_go i227_67 rfl
theorem i227_69 : insAt 227 69 = some (.aload_n 0, 1, (0, 0, 0, 0), 0) := rfl
theorem s227_69 {c : Nat → List AV → SS → Option Out} {l1 l2 l3 l4 l5 : Option AV} {o : OId} {L2 : List (Nat × AV)} {St : List AV} {S : SS} : ev c 227 69 [some (aR o), l1, l2, l3, l4, l5] L2 St S = ev c 227 70 [some (aR o), l1, l2, l3, l4, l5] L2 (aR o :: St) S := ev_go i227_69 rfl
theorem i227_70 : insAt 227 70 = some (.iload_n 3, 1, (0, 0, 0, 0), 0) := rfl
theorem s227_70 {c : Nat → List AV → SS → Option Out} {l0 l1 l2 l4 l5 : Option AV} {x : Int32} {L2 : List (Nat × AV)} {St : List AV} {S : SS} : ev c 227 70 [l0, l1, l2, some (aI x), l4, l5] L2 St S = ev c 227 71 [l0, l1, l2, some (aI x), l4, l5] L2 (aI x :: St) S := ev_go i227_70 rfl
theorem i227_71 : insAt 227 71 = some (.iconst 3, 1, (0, 0, 0, 0), 0) := rfl
theorem s227_71 {c : Nat → List AV → SS → Option Out} {l0 l1 l2 l3 l4 l5 : Option AV} {L2 : List (Nat × AV)} {St : List AV} {S : SS} : ev c 227 71 [l0, l1, l2, l3, l4, l5] L2 St S = ev c 227 72 [l0, l1, l2, l3, l4, l5] L2 (aI 3 :: St) S := ev_go i227_71 rfl
theorem i227_72 : insAt 227 72 = some (.iload 4, 2, (0, 0, 0, 0), 0) := rfl
theorem s227_72 {c : Nat → List AV → SS → Option Out} {l0 l1 l2 l3 l5 : Option AV} {x : Int32} {L2 : List (Nat × AV)} {St : List AV} {S : SS} : ev c 227 72 [l0, l1, l2, l3, some (aI x), l5] L2 St S = ev c 227 74 [l0, l1, l2, l3, some (aI x), l5] L2 (aI x :: St) S := ev_go i227_72 rfl
theorem i227_74 : insAt 227 74 = some (.invokevirtual 79, 3, (242, 3, 2, 12), 397) := rfl
theorem s227_74 {c : Nat → List AV → SS → Option Out} {l0 l1 l2 l3 l4 l5 : Option AV} {a0 : Int32} {a1 : Int32} {a2 : Int32} {j t : Nat} {L2 : List (Nat × AV)} {S : SS} : ev c 227 74 [l0, l1, l2, l3, l4, l5] L2 [aI a2, aI a1, aI a0, aR (12, j, t)] S = ck (c 242 [aR (12, j, t), aI a0, aI a1, aI a2] S) (fun v S' => ev c 227 77 [l0, l1, l2, l3, l4, l5] L2 (v.toList ++ []) S') := ev_call i227_74 rfl
theorem i227_77 : insAt 227 77 = some (.aload_n 0, 1, (0, 0, 0, 0), 0) := rfl
theorem s227_77 {c : Nat → List AV → SS → Option Out} {l1 l2 l3 l4 l5 : Option AV} {o : OId} {L2 : List (Nat × AV)} {St : List AV} {S : SS} : ev c 227 77 [some (aR o), l1, l2, l3, l4, l5] L2 St S = ev c 227 78 [some (aR o), l1, l2, l3, l4, l5] L2 (aR o :: St) S := ev_go i227_77 rfl
theorem i227_78 : insAt 227 78 = some (.getfield 22, 3, (12, 4, 0, 0), 368) := rfl
theorem s227_78 {c : Nat → List AV → SS → Option Out} {l0 l1 l2 l3 l4 l5 : Option AV} {j t : Nat} {L2 : List (Nat × AV)} {St : List AV} {S : SS} : ev c 227 78 [l0, l1, l2, l3, l4, l5] L2 (aR (12, j, t) :: St) S = ev c 227 81 [l0, l1, l2, l3, l4, l5] L2 (S.2.2.1 (12, j, t) 4 :: St) S := ev_go i227_78 rfl
theorem i227_81 : insAt 227 81 = some (.iload_n 1, 1, (0, 0, 0, 0), 0) := rfl
theorem s227_81 {c : Nat → List AV → SS → Option Out} {l0 l2 l3 l4 l5 : Option AV} {x : Int32} {L2 : List (Nat × AV)} {St : List AV} {S : SS} : ev c 227 81 [l0, some (aI x), l2, l3, l4, l5] L2 St S = ev c 227 82 [l0, some (aI x), l2, l3, l4, l5] L2 (aI x :: St) S := ev_go i227_81 rfl
theorem i227_82 : insAt 227 82 = some (.iload_n 3, 1, (0, 0, 0, 0), 0) := rfl
theorem s227_82 {c : Nat → List AV → SS → Option Out} {l0 l1 l2 l4 l5 : Option AV} {x : Int32} {L2 : List (Nat × AV)} {St : List AV} {S : SS} : ev c 227 82 [l0, l1, l2, some (aI x), l4, l5] L2 St S = ev c 227 83 [l0, l1, l2, some (aI x), l4, l5] L2 (aI x :: St) S := ev_go i227_82 rfl
theorem i227_83 : insAt 227 83 = some (.iastore, 1, (0, 0, 0, 0), 0) := rfl
theorem s227_83 {c : Nat → List AV → SS → Option Out} {l0 l1 l2 l3 l4 l5 : Option AV} {x i : Int32} {o : OId} {L2 : List (Nat × AV)} {St : List AV} {S : SS} : ev c 227 83 [l0, l1, l2, l3, l4, l5] L2 (aI x :: aI i :: aR o :: St) S = kIw o i (ev c 227 84 [l0, l1, l2, l3, l4, l5] L2 St (setI S.1 o i.toNatClampNeg x, S.2)) := ev_iastore i227_83
theorem i227_84 : insAt 227 84 = some (.aload_n 0, 1, (0, 0, 0, 0), 0) := rfl
theorem s227_84 {c : Nat → List AV → SS → Option Out} {l1 l2 l3 l4 l5 : Option AV} {o : OId} {L2 : List (Nat × AV)} {St : List AV} {S : SS} : ev c 227 84 [some (aR o), l1, l2, l3, l4, l5] L2 St S = ev c 227 85 [some (aR o), l1, l2, l3, l4, l5] L2 (aR o :: St) S := ev_go i227_84 rfl
theorem i227_85 : insAt 227 85 = some (.getfield 25, 3, (12, 5, 0, 0), 369) := rfl
theorem s227_85 {c : Nat → List AV → SS → Option Out} {l0 l1 l2 l3 l4 l5 : Option AV} {j t : Nat} {L2 : List (Nat × AV)} {St : List AV} {S : SS} : ev c 227 85 [l0, l1, l2, l3, l4, l5] L2 (aR (12, j, t) :: St) S = ev c 227 88 [l0, l1, l2, l3, l4, l5] L2 (S.2.2.1 (12, j, t) 5 :: St) S := ev_go i227_85 rfl
theorem i227_88 : insAt 227 88 = some (.iload_n 1, 1, (0, 0, 0, 0), 0) := rfl
theorem s227_88 {c : Nat → List AV → SS → Option Out} {l0 l2 l3 l4 l5 : Option AV} {x : Int32} {L2 : List (Nat × AV)} {St : List AV} {S : SS} : ev c 227 88 [l0, some (aI x), l2, l3, l4, l5] L2 St S = ev c 227 89 [l0, some (aI x), l2, l3, l4, l5] L2 (aI x :: St) S := ev_go i227_88 rfl
theorem i227_89 : insAt 227 89 = some (.iload 4, 2, (0, 0, 0, 0), 0) := rfl
theorem s227_89 {c : Nat → List AV → SS → Option Out} {l0 l1 l2 l3 l5 : Option AV} {x : Int32} {L2 : List (Nat × AV)} {St : List AV} {S : SS} : ev c 227 89 [l0, l1, l2, l3, some (aI x), l5] L2 St S = ev c 227 91 [l0, l1, l2, l3, some (aI x), l5] L2 (aI x :: St) S := ev_go i227_89 rfl
theorem i227_91 : insAt 227 91 = some (.iastore, 1, (0, 0, 0, 0), 0) := rfl
theorem s227_91 {c : Nat → List AV → SS → Option Out} {l0 l1 l2 l3 l4 l5 : Option AV} {x i : Int32} {o : OId} {L2 : List (Nat × AV)} {St : List AV} {S : SS} : ev c 227 91 [l0, l1, l2, l3, l4, l5] L2 (aI x :: aI i :: aR o :: St) S = kIw o i (ev c 227 92 [l0, l1, l2, l3, l4, l5] L2 St (setI S.1 o i.toNatClampNeg x, S.2)) := ev_iastore i227_91
theorem i227_92 : insAt 227 92 = some (.aload_n 0, 1, (0, 0, 0, 0), 0) := rfl
theorem s227_92 {c : Nat → List AV → SS → Option Out} {l1 l2 l3 l4 l5 : Option AV} {o : OId} {L2 : List (Nat × AV)} {St : List AV} {S : SS} : ev c 227 92 [some (aR o), l1, l2, l3, l4, l5] L2 St S = ev c 227 93 [some (aR o), l1, l2, l3, l4, l5] L2 (aR o :: St) S := ev_go i227_92 rfl
theorem i227_93 : insAt 227 93 = some (.iload_n 1, 1, (0, 0, 0, 0), 0) := rfl
theorem s227_93 {c : Nat → List AV → SS → Option Out} {l0 l2 l3 l4 l5 : Option AV} {x : Int32} {L2 : List (Nat × AV)} {St : List AV} {S : SS} : ev c 227 93 [l0, some (aI x), l2, l3, l4, l5] L2 St S = ev c 227 94 [l0, some (aI x), l2, l3, l4, l5] L2 (aI x :: St) S := ev_go i227_93 rfl
theorem i227_94 : insAt 227 94 = some (.iconst 1, 1, (0, 0, 0, 0), 0) := rfl
theorem s227_94 {c : Nat → List AV → SS → Option Out} {l0 l1 l2 l3 l4 l5 : Option AV} {L2 : List (Nat × AV)} {St : List AV} {S : SS} : ev c 227 94 [l0, l1, l2, l3, l4, l5] L2 St S = ev c 227 95 [l0, l1, l2, l3, l4, l5] L2 (aI 1 :: St) S := ev_go i227_94 rfl
theorem i227_95 : insAt 227 95 = some (.iadd, 1, (0, 0, 0, 0), 0) := rfl
theorem s227_95 {c : Nat → List AV → SS → Option Out} {l0 l1 l2 l3 l4 l5 : Option AV} {x y : Int32} {L2 : List (Nat × AV)} {St : List AV} {S : SS} : ev c 227 95 [l0, l1, l2, l3, l4, l5] L2 (aI y :: aI x :: St) S = ev c 227 96 [l0, l1, l2, l3, l4, l5] L2 (aI (x + y) :: St) S := ev_go i227_95 rfl
theorem i227_96 : insAt 227 96 = some (.iload_n 2, 1, (0, 0, 0, 0), 0) := rfl
theorem s227_96 {c : Nat → List AV → SS → Option Out} {l0 l1 l3 l4 l5 : Option AV} {x : Int32} {L2 : List (Nat × AV)} {St : List AV} {S : SS} : ev c 227 96 [l0, l1, some (aI x), l3, l4, l5] L2 St S = ev c 227 97 [l0, l1, some (aI x), l3, l4, l5] L2 (aI x :: St) S := ev_go i227_96 rfl
theorem i227_97 : insAt 227 97 = some (.iconst 1, 1, (0, 0, 0, 0), 0) := rfl
theorem s227_97 {c : Nat → List AV → SS → Option Out} {l0 l1 l2 l3 l4 l5 : Option AV} {L2 : List (Nat × AV)} {St : List AV} {S : SS} : ev c 227 97 [l0, l1, l2, l3, l4, l5] L2 St S = ev c 227 98 [l0, l1, l2, l3, l4, l5] L2 (aI 1 :: St) S := ev_go i227_97 rfl
theorem i227_98 : insAt 227 98 = some (.isub, 1, (0, 0, 0, 0), 0) := rfl
theorem s227_98 {c : Nat → List AV → SS → Option Out} {l0 l1 l2 l3 l4 l5 : Option AV} {x y : Int32} {L2 : List (Nat × AV)} {St : List AV} {S : SS} : ev c 227 98 [l0, l1, l2, l3, l4, l5] L2 (aI y :: aI x :: St) S = ev c 227 99 [l0, l1, l2, l3, l4, l5] L2 (aI (x - y) :: St) S := ev_go i227_98 rfl
theorem i227_99 : insAt 227 99 = some (.invokevirtual 137, 3, (227, 2, 2, 12), 393) := rfl
theorem s227_99 {c : Nat → List AV → SS → Option Out} {l0 l1 l2 l3 l4 l5 : Option AV} {a0 : Int32} {a1 : Int32} {j t : Nat} {L2 : List (Nat × AV)} {S : SS} : ev c 227 99 [l0, l1, l2, l3, l4, l5] L2 [aI a1, aI a0, aR (12, j, t)] S = ck (c 227 [aR (12, j, t), aI a0, aI a1] S) (fun v S' => ev c 227 102 [l0, l1, l2, l3, l4, l5] L2 (v.toList ++ []) S') := ev_call i227_99 rfl
theorem i227_102 : insAt 227 102 = some (.ifCond .eq 5, 3, (0, 0, 0, 0), 0) := rfl
theorem s227_102 {c : Nat → List AV → SS → Option Out} {l0 l1 l2 l3 l4 l5 : Option AV} {x : Int32} {L2 : List (Nat × AV)} {St : List AV} {S : SS} : ev c 227 102 [l0, l1, l2, l3, l4, l5] L2 (aI x :: St) S = if x = 0 then ev c 227 107 [l0, l1, l2, l3, l4, l5] L2 St S else ev c 227 105 [l0, l1, l2, l3, l4, l5] L2 St S := ev_br i227_102 rfl
theorem i227_105 : insAt 227 105 = some (.iconst 1, 1, (0, 0, 0, 0), 0) := rfl
theorem s227_105 {c : Nat → List AV → SS → Option Out} {l0 l1 l2 l3 l4 l5 : Option AV} {L2 : List (Nat × AV)} {St : List AV} {S : SS} : ev c 227 105 [l0, l1, l2, l3, l4, l5] L2 St S = ev c 227 106 [l0, l1, l2, l3, l4, l5] L2 (aI 1 :: St) S := ev_go i227_105 rfl
theorem i227_106 : insAt 227 106 = some (.ireturn, 1, (0, 0, 0, 0), 0) := rfl
theorem s227_106 {c : Nat → List AV → SS → Option Out} {l0 l1 l2 l3 l4 l5 : Option AV} {x : Int32} {L2 : List (Nat × AV)} {S : SS} : ev c 227 106 [l0, l1, l2, l3, l4, l5] L2 [aI x] S = if x = 0 ∨ x = 1 then some (.inl (some (aI x)), S) else none := ev_rt i227_106 rfl
theorem i227_107 : insAt 227 107 = some (.aload_n 0, 1, (0, 0, 0, 0), 0) := rfl
theorem s227_107 {c : Nat → List AV → SS → Option Out} {l1 l2 l3 l4 l5 : Option AV} {o : OId} {L2 : List (Nat × AV)} {St : List AV} {S : SS} : ev c 227 107 [some (aR o), l1, l2, l3, l4, l5] L2 St S = ev c 227 108 [some (aR o), l1, l2, l3, l4, l5] L2 (aR o :: St) S := ev_go i227_107 rfl
theorem i227_108 : insAt 227 108 = some (.iload_n 3, 1, (0, 0, 0, 0), 0) := rfl
theorem s227_108 {c : Nat → List AV → SS → Option Out} {l0 l1 l2 l4 l5 : Option AV} {x : Int32} {L2 : List (Nat × AV)} {St : List AV} {S : SS} : ev c 227 108 [l0, l1, l2, some (aI x), l4, l5] L2 St S = ev c 227 109 [l0, l1, l2, some (aI x), l4, l5] L2 (aI x :: St) S := ev_go i227_108 rfl
theorem i227_109 : insAt 227 109 = some (.iconst 3, 1, (0, 0, 0, 0), 0) := rfl
theorem s227_109 {c : Nat → List AV → SS → Option Out} {l0 l1 l2 l3 l4 l5 : Option AV} {L2 : List (Nat × AV)} {St : List AV} {S : SS} : ev c 227 109 [l0, l1, l2, l3, l4, l5] L2 St S = ev c 227 110 [l0, l1, l2, l3, l4, l5] L2 (aI 3 :: St) S := ev_go i227_109 rfl
theorem i227_110 : insAt 227 110 = some (.iload 5, 2, (0, 0, 0, 0), 0) := rfl
theorem s227_110 {c : Nat → List AV → SS → Option Out} {l0 l1 l2 l3 l4 : Option AV} {x : Int32} {L2 : List (Nat × AV)} {St : List AV} {S : SS} : ev c 227 110 [l0, l1, l2, l3, l4, some (aI x)] L2 St S = ev c 227 112 [l0, l1, l2, l3, l4, some (aI x)] L2 (aI x :: St) S := ev_go i227_110 rfl
theorem i227_112 : insAt 227 112 = some (.invokevirtual 79, 3, (242, 3, 2, 12), 397) := rfl
theorem s227_112 {c : Nat → List AV → SS → Option Out} {l0 l1 l2 l3 l4 l5 : Option AV} {a0 : Int32} {a1 : Int32} {a2 : Int32} {j t : Nat} {L2 : List (Nat × AV)} {S : SS} : ev c 227 112 [l0, l1, l2, l3, l4, l5] L2 [aI a2, aI a1, aI a0, aR (12, j, t)] S = ck (c 242 [aR (12, j, t), aI a0, aI a1, aI a2] S) (fun v S' => ev c 227 115 [l0, l1, l2, l3, l4, l5] L2 (v.toList ++ []) S') := ev_call i227_112 rfl
theorem i227_115 : insAt 227 115 = some (.iinc 4 1, 3, (0, 0, 0, 0), 0) := rfl
theorem s227_115 {c : Nat → List AV → SS → Option Out} {l0 l1 l2 l3 l5 : Option AV} {x : Int32} {L2 : List (Nat × AV)} {St : List AV} {S : SS} : ev c 227 115 [l0, l1, l2, l3, some (aI x), l5] L2 St S = ev c 227 118 [l0, l1, l2, l3, some (aI (x + 1)), l5] (kil L2 4) St S := ev_go i227_115 rfl
theorem i227_118 : insAt 227 118 = some (.goto (-77), 3, (0, 0, 0, 0), 0) := rfl
theorem s227_118 {c : Nat → List AV → SS → Option Out} {l0 l1 l2 l3 l4 l5 : Option AV} {L2 : List (Nat × AV)} {St : List AV} {S : SS} : ev c 227 118 [l0, l1, l2, l3, l4, l5] L2 St S = ev c 227 41 [l0, l1, l2, l3, l4, l5] L2 St S := ev_go i227_118 rfl
theorem i227_121 : insAt 227 121 = some (.iinc 3 1, 3, (0, 0, 0, 0), 0) := rfl
theorem s227_121 {c : Nat → List AV → SS → Option Out} {l0 l1 l2 l4 l5 : Option AV} {x : Int32} {L2 : List (Nat × AV)} {St : List AV} {S : SS} : ev c 227 121 [l0, l1, l2, some (aI x), l4, l5] L2 St S = ev c 227 124 [l0, l1, l2, some (aI (x + 1)), l4, l5] (kil L2 3) St S := ev_go i227_121 rfl
theorem i227_124 : insAt 227 124 = some (.goto (-97), 3, (0, 0, 0, 0), 0) := rfl
theorem s227_124 {c : Nat → List AV → SS → Option Out} {l0 l1 l2 l3 l4 l5 : Option AV} {L2 : List (Nat × AV)} {St : List AV} {S : SS} : ev c 227 124 [l0, l1, l2, l3, l4, l5] L2 St S = ev c 227 27 [l0, l1, l2, l3, l4, l5] L2 St S := ev_go i227_124 rfl
theorem i227_127 : insAt 227 127 = some (.iconst 0, 1, (0, 0, 0, 0), 0) := rfl
theorem s227_127 {c : Nat → List AV → SS → Option Out} {l0 l1 l2 l3 l4 l5 : Option AV} {L2 : List (Nat × AV)} {St : List AV} {S : SS} : ev c 227 127 [l0, l1, l2, l3, l4, l5] L2 St S = ev c 227 128 [l0, l1, l2, l3, l4, l5] L2 (aI 0 :: St) S := ev_go i227_127 rfl
theorem i227_128 : insAt 227 128 = some (.ireturn, 1, (0, 0, 0, 0), 0) := rfl
theorem s227_128 {c : Nat → List AV → SS → Option Out} {l0 l1 l2 l3 l4 l5 : Option AV} {x : Int32} {L2 : List (Nat × AV)} {S : SS} : ev c 227 128 [l0, l1, l2, l3, l4, l5] L2 [aI x] S = if x = 0 ∨ x = 1 then some (.inl (some (aI x)), S) else none := ev_rt i227_128 rfl
theorem m227 {d : Nat} {o : OId} {a0 : Int32} {a1 : Int32} {S : SS} : evm (d + 1) 227 [aR o, aI a0, aI a1] S = ev (evm d) 227 0 [some (aR o), some (aI a0), some (aI a1), none, none, none] [] [] S := evm_s (n := 6) rfl (Nat.le_of_ble_eq_true rfl) rfl rfl
/-! FrequencyOfficeModel.bestChannel()I -/
theorem i228_0 : insAt 228 0 = some (.iconst (-1), 1, (0, 0, 0, 0), 0) := rfl
theorem s228_0 {c : Nat → List AV → SS → Option Out} {l0 l1 l2 : Option AV} {L2 : List (Nat × AV)} {St : List AV} {S : SS} : ev c 228 0 [l0, l1, l2] L2 St S = ev c 228 1 [l0, l1, l2] L2 (aI (-1) :: St) S := ev_go i228_0 rfl
theorem i228_1 : insAt 228 1 = some (.istore_n 1, 1, (0, 0, 0, 0), 0) := rfl
theorem s228_1 {c : Nat → List AV → SS → Option Out} {l0 l1 l2 : Option AV} {x : Int32} {L2 : List (Nat × AV)} {St : List AV} {S : SS} : ev c 228 1 [l0, l1, l2] L2 (aI x :: St) S = ev c 228 2 [l0, some (aI x), l2] (kil L2 1) St S := ev_go i228_1 rfl
theorem i228_2 : insAt 228 2 = some (.iconst 0, 1, (0, 0, 0, 0), 0) := rfl
theorem s228_2 {c : Nat → List AV → SS → Option Out} {l0 l1 l2 : Option AV} {L2 : List (Nat × AV)} {St : List AV} {S : SS} : ev c 228 2 [l0, l1, l2] L2 St S = ev c 228 3 [l0, l1, l2] L2 (aI 0 :: St) S := ev_go i228_2 rfl
theorem i228_3 : insAt 228 3 = some (.istore_n 2, 1, (0, 0, 0, 0), 0) := rfl
theorem s228_3 {c : Nat → List AV → SS → Option Out} {l0 l1 l2 : Option AV} {x : Int32} {L2 : List (Nat × AV)} {St : List AV} {S : SS} : ev c 228 3 [l0, l1, l2] L2 (aI x :: St) S = ev c 228 4 [l0, l1, some (aI x)] (kil L2 2) St S := ev_go i228_3 rfl
theorem i228_4 : insAt 228 4 = some (.iload_n 2, 1, (0, 0, 0, 0), 0) := rfl
theorem s228_4 {c : Nat → List AV → SS → Option Out} {l0 l1 : Option AV} {x : Int32} {L2 : List (Nat × AV)} {St : List AV} {S : SS} : ev c 228 4 [l0, l1, some (aI x)] L2 St S = ev c 228 5 [l0, l1, some (aI x)] L2 (aI x :: St) S := ev_go i228_4 rfl
theorem i228_5 : insAt 228 5 = some (.bipush 8, 2, (0, 0, 0, 0), 0) := rfl
theorem s228_5 {c : Nat → List AV → SS → Option Out} {l0 l1 l2 : Option AV} {L2 : List (Nat × AV)} {St : List AV} {S : SS} : ev c 228 5 [l0, l1, l2] L2 St S = ev c 228 7 [l0, l1, l2] L2 (aI 8 :: St) S := ev_go i228_5 rfl
theorem i228_7 : insAt 228 7 = some (.if_icmp .ge 78, 3, (0, 0, 0, 0), 0) := rfl
theorem s228_7 {c : Nat → List AV → SS → Option Out} {l0 l1 l2 : Option AV} {x y : Int32} {L2 : List (Nat × AV)} {St : List AV} {S : SS} : ev c 228 7 [l0, l1, l2] L2 (aI y :: aI x :: St) S = if y ≤ x then ev c 228 85 [l0, l1, l2] L2 St S else ev c 228 10 [l0, l1, l2] L2 St S := ev_br i228_7 rfl
theorem i228_10 : insAt 228 10 = some (.aload_n 0, 1, (0, 0, 0, 0), 0) := rfl
theorem s228_10 {c : Nat → List AV → SS → Option Out} {l1 l2 : Option AV} {o : OId} {L2 : List (Nat × AV)} {St : List AV} {S : SS} : ev c 228 10 [some (aR o), l1, l2] L2 St S = ev c 228 11 [some (aR o), l1, l2] L2 (aR o :: St) S := ev_go i228_10 rfl
theorem i228_11 : insAt 228 11 = some (.getfield 47, 3, (12, 12, 0, 0), 376) := rfl
theorem s228_11 {c : Nat → List AV → SS → Option Out} {l0 l1 l2 : Option AV} {j t : Nat} {L2 : List (Nat × AV)} {St : List AV} {S : SS} : ev c 228 11 [l0, l1, l2] L2 (aR (12, j, t) :: St) S = ev c 228 14 [l0, l1, l2] L2 (aI (S.1 (12, j, t) 12) :: St) S := ev_go i228_11 rfl
theorem i228_14 : insAt 228 14 = some (.ifCond .lt 11, 3, (0, 0, 0, 0), 0) := rfl
theorem s228_14 {c : Nat → List AV → SS → Option Out} {l0 l1 l2 : Option AV} {x : Int32} {L2 : List (Nat × AV)} {St : List AV} {S : SS} : ev c 228 14 [l0, l1, l2] L2 (aI x :: St) S = if x < 0 then ev c 228 25 [l0, l1, l2] L2 St S else ev c 228 17 [l0, l1, l2] L2 St S := ev_br i228_14 rfl
theorem i228_17 : insAt 228 17 = some (.iload_n 2, 1, (0, 0, 0, 0), 0) := rfl
theorem s228_17 {c : Nat → List AV → SS → Option Out} {l0 l1 : Option AV} {x : Int32} {L2 : List (Nat × AV)} {St : List AV} {S : SS} : ev c 228 17 [l0, l1, some (aI x)] L2 St S = ev c 228 18 [l0, l1, some (aI x)] L2 (aI x :: St) S := ev_go i228_17 rfl
theorem i228_18 : insAt 228 18 = some (.aload_n 0, 1, (0, 0, 0, 0), 0) := rfl
theorem s228_18 {c : Nat → List AV → SS → Option Out} {l1 l2 : Option AV} {o : OId} {L2 : List (Nat × AV)} {St : List AV} {S : SS} : ev c 228 18 [some (aR o), l1, l2] L2 St S = ev c 228 19 [some (aR o), l1, l2] L2 (aR o :: St) S := ev_go i228_18 rfl
theorem i228_19 : insAt 228 19 = some (.getfield 47, 3, (12, 12, 0, 0), 376) := rfl
theorem s228_19 {c : Nat → List AV → SS → Option Out} {l0 l1 l2 : Option AV} {j t : Nat} {L2 : List (Nat × AV)} {St : List AV} {S : SS} : ev c 228 19 [l0, l1, l2] L2 (aR (12, j, t) :: St) S = ev c 228 22 [l0, l1, l2] L2 (aI (S.1 (12, j, t) 12) :: St) S := ev_go i228_19 rfl
theorem i228_22 : insAt 228 22 = some (.if_icmp .ne 57, 3, (0, 0, 0, 0), 0) := rfl
theorem s228_22 {c : Nat → List AV → SS → Option Out} {l0 l1 l2 : Option AV} {x y : Int32} {L2 : List (Nat × AV)} {St : List AV} {S : SS} : ev c 228 22 [l0, l1, l2] L2 (aI y :: aI x :: St) S = if x = y then ev c 228 25 [l0, l1, l2] L2 St S else ev c 228 79 [l0, l1, l2] L2 St S := (ev_br i228_22 rfl).trans (ite_not _ _ _)
theorem i228_25 : insAt 228 25 = some (.aload_n 0, 1, (0, 0, 0, 0), 0) := rfl
theorem s228_25 {c : Nat → List AV → SS → Option Out} {l1 l2 : Option AV} {o : OId} {L2 : List (Nat × AV)} {St : List AV} {S : SS} : ev c 228 25 [some (aR o), l1, l2] L2 St S = ev c 228 26 [some (aR o), l1, l2] L2 (aR o :: St) S := ev_go i228_25 rfl
theorem i228_26 : insAt 228 26 = some (.iload_n 2, 1, (0, 0, 0, 0), 0) := rfl
theorem s228_26 {c : Nat → List AV → SS → Option Out} {l0 l1 : Option AV} {x : Int32} {L2 : List (Nat × AV)} {St : List AV} {S : SS} : ev c 228 26 [l0, l1, some (aI x)] L2 St S = ev c 228 27 [l0, l1, some (aI x)] L2 (aI x :: St) S := ev_go i228_26 rfl
theorem i228_27 : insAt 228 27 = some (.invokevirtual 122, 3, (229, 1, 2, 12), 398) := rfl
theorem s228_27 {c : Nat → List AV → SS → Option Out} {l0 l1 l2 : Option AV} {a0 : Int32} {j t : Nat} {L2 : List (Nat × AV)} {S : SS} : ev c 228 27 [l0, l1, l2] L2 [aI a0, aR (12, j, t)] S = ck (c 229 [aR (12, j, t), aI a0] S) (fun v S' => ev c 228 30 [l0, l1, l2] L2 (v.toList ++ []) S') := ev_call i228_27 rfl
theorem i228_30 : insAt 228 30 = some (.ifCond .ne 6, 3, (0, 0, 0, 0), 0) := rfl
theorem s228_30 {c : Nat → List AV → SS → Option Out} {l0 l1 l2 : Option AV} {x : Int32} {L2 : List (Nat × AV)} {St : List AV} {S : SS} : ev c 228 30 [l0, l1, l2] L2 (aI x :: St) S = if x = 0 then ev c 228 33 [l0, l1, l2] L2 St S else ev c 228 36 [l0, l1, l2] L2 St S := (ev_br i228_30 rfl).trans (ite_not _ _ _)
theorem i228_33 : insAt 228 33 = some (.goto 46, 3, (0, 0, 0, 0), 0) := rfl
theorem s228_33 {c : Nat → List AV → SS → Option Out} {l0 l1 l2 : Option AV} {L2 : List (Nat × AV)} {St : List AV} {S : SS} : ev c 228 33 [l0, l1, l2] L2 St S = ev c 228 79 [l0, l1, l2] L2 St S := ev_go i228_33 rfl
theorem i228_36 : insAt 228 36 = some (.iload_n 1, 1, (0, 0, 0, 0), 0) := rfl
theorem s228_36 {c : Nat → List AV → SS → Option Out} {l0 l2 : Option AV} {x : Int32} {L2 : List (Nat × AV)} {St : List AV} {S : SS} : ev c 228 36 [l0, some (aI x), l2] L2 St S = ev c 228 37 [l0, some (aI x), l2] L2 (aI x :: St) S := ev_go i228_36 rfl
theorem i228_37 : insAt 228 37 = some (.ifCond .lt 40, 3, (0, 0, 0, 0), 0) := rfl
theorem s228_37 {c : Nat → List AV → SS → Option Out} {l0 l1 l2 : Option AV} {x : Int32} {L2 : List (Nat × AV)} {St : List AV} {S : SS} : ev c 228 37 [l0, l1, l2] L2 (aI x :: St) S = if x < 0 then ev c 228 77 [l0, l1, l2] L2 St S else ev c 228 40 [l0, l1, l2] L2 St S := ev_br i228_37 rfl
theorem i228_40 : insAt 228 40 = some (.aload_n 0, 1, (0, 0, 0, 0), 0) := rfl
theorem s228_40 {c : Nat → List AV → SS → Option Out} {l1 l2 : Option AV} {o : OId} {L2 : List (Nat × AV)} {St : List AV} {S : SS} : ev c 228 40 [some (aR o), l1, l2] L2 St S = ev c 228 41 [some (aR o), l1, l2] L2 (aR o :: St) S := ev_go i228_40 rfl
theorem i228_41 : insAt 228 41 = some (.aload_n 0, 1, (0, 0, 0, 0), 0) := rfl
theorem s228_41 {c : Nat → List AV → SS → Option Out} {l1 l2 : Option AV} {o : OId} {L2 : List (Nat × AV)} {St : List AV} {S : SS} : ev c 228 41 [some (aR o), l1, l2] L2 St S = ev c 228 42 [some (aR o), l1, l2] L2 (aR o :: St) S := ev_go i228_41 rfl
theorem i228_42 : insAt 228 42 = some (.getfield 41, 3, (12, 10, 0, 0), 374) := rfl
theorem s228_42 {c : Nat → List AV → SS → Option Out} {l0 l1 l2 : Option AV} {j t : Nat} {L2 : List (Nat × AV)} {St : List AV} {S : SS} : ev c 228 42 [l0, l1, l2] L2 (aR (12, j, t) :: St) S = ev c 228 45 [l0, l1, l2] L2 (aI (S.1 (12, j, t) 10) :: St) S := ev_go i228_42 rfl
theorem i228_45 : insAt 228 45 = some (.aload_n 0, 1, (0, 0, 0, 0), 0) := rfl
theorem s228_45 {c : Nat → List AV → SS → Option Out} {l1 l2 : Option AV} {o : OId} {L2 : List (Nat × AV)} {St : List AV} {S : SS} : ev c 228 45 [some (aR o), l1, l2] L2 St S = ev c 228 46 [some (aR o), l1, l2] L2 (aR o :: St) S := ev_go i228_45 rfl
theorem i228_46 : insAt 228 46 = some (.getfield 44, 3, (12, 11, 0, 0), 375) := rfl
theorem s228_46 {c : Nat → List AV → SS → Option Out} {l0 l1 l2 : Option AV} {j t : Nat} {L2 : List (Nat × AV)} {St : List AV} {S : SS} : ev c 228 46 [l0, l1, l2] L2 (aR (12, j, t) :: St) S = ev c 228 49 [l0, l1, l2] L2 (aI (S.1 (12, j, t) 11) :: St) S := ev_go i228_46 rfl
theorem i228_49 : insAt 228 49 = some (.iload_n 2, 1, (0, 0, 0, 0), 0) := rfl
theorem s228_49 {c : Nat → List AV → SS → Option Out} {l0 l1 : Option AV} {x : Int32} {L2 : List (Nat × AV)} {St : List AV} {S : SS} : ev c 228 49 [l0, l1, some (aI x)] L2 St S = ev c 228 50 [l0, l1, some (aI x)] L2 (aI x :: St) S := ev_go i228_49 rfl
theorem i228_50 : insAt 228 50 = some (.aload_n 0, 1, (0, 0, 0, 0), 0) := rfl
theorem s228_50 {c : Nat → List AV → SS → Option Out} {l1 l2 : Option AV} {o : OId} {L2 : List (Nat × AV)} {St : List AV} {S : SS} : ev c 228 50 [some (aR o), l1, l2] L2 St S = ev c 228 51 [some (aR o), l1, l2] L2 (aR o :: St) S := ev_go i228_50 rfl
theorem i228_51 : insAt 228 51 = some (.getfield 38, 3, (12, 9, 0, 0), 373) := rfl
theorem s228_51 {c : Nat → List AV → SS → Option Out} {l0 l1 l2 : Option AV} {j t : Nat} {L2 : List (Nat × AV)} {St : List AV} {S : SS} : ev c 228 51 [l0, l1, l2] L2 (aR (12, j, t) :: St) S = ev c 228 54 [l0, l1, l2] L2 (aI (S.1 (12, j, t) 9) :: St) S := ev_go i228_51 rfl
theorem i228_54 : insAt 228 54 = some (.invokevirtual 125, 3, (238, 4, 2, 12), 399) := rfl
theorem s228_54 {c : Nat → List AV → SS → Option Out} {l0 l1 l2 : Option AV} {a0 : Int32} {a1 : Int32} {a2 : Int32} {a3 : Int32} {j t : Nat} {L2 : List (Nat × AV)} {S : SS} : ev c 228 54 [l0, l1, l2] L2 [aI a3, aI a2, aI a1, aI a0, aR (12, j, t)] S = ck (c 238 [aR (12, j, t), aI a0, aI a1, aI a2, aI a3] S) (fun v S' => ev c 228 57 [l0, l1, l2] L2 (v.toList ++ []) S') := ev_call i228_54 rfl
theorem i228_57 : insAt 228 57 = some (.aload_n 0, 1, (0, 0, 0, 0), 0) := rfl
theorem s228_57 {c : Nat → List AV → SS → Option Out} {l1 l2 : Option AV} {o : OId} {L2 : List (Nat × AV)} {St : List AV} {S : SS} : ev c 228 57 [some (aR o), l1, l2] L2 St S = ev c 228 58 [some (aR o), l1, l2] L2 (aR o :: St) S := ev_go i228_57 rfl
theorem i228_58 : insAt 228 58 = some (.aload_n 0, 1, (0, 0, 0, 0), 0) := rfl
theorem s228_58 {c : Nat → List AV → SS → Option Out} {l1 l2 : Option AV} {o : OId} {L2 : List (Nat × AV)} {St : List AV} {S : SS} : ev c 228 58 [some (aR o), l1, l2] L2 St S = ev c 228 59 [some (aR o), l1, l2] L2 (aR o :: St) S := ev_go i228_58 rfl
theorem i228_59 : insAt 228 59 = some (.getfield 41, 3, (12, 10, 0, 0), 374) := rfl
theorem s228_59 {c : Nat → List AV → SS → Option Out} {l0 l1 l2 : Option AV} {j t : Nat} {L2 : List (Nat × AV)} {St : List AV} {S : SS} : ev c 228 59 [l0, l1, l2] L2 (aR (12, j, t) :: St) S = ev c 228 62 [l0, l1, l2] L2 (aI (S.1 (12, j, t) 10) :: St) S := ev_go i228_59 rfl
theorem i228_62 : insAt 228 62 = some (.aload_n 0, 1, (0, 0, 0, 0), 0) := rfl
theorem s228_62 {c : Nat → List AV → SS → Option Out} {l1 l2 : Option AV} {o : OId} {L2 : List (Nat × AV)} {St : List AV} {S : SS} : ev c 228 62 [some (aR o), l1, l2] L2 St S = ev c 228 63 [some (aR o), l1, l2] L2 (aR o :: St) S := ev_go i228_62 rfl
theorem i228_63 : insAt 228 63 = some (.getfield 44, 3, (12, 11, 0, 0), 375) := rfl
theorem s228_63 {c : Nat → List AV → SS → Option Out} {l0 l1 l2 : Option AV} {j t : Nat} {L2 : List (Nat × AV)} {St : List AV} {S : SS} : ev c 228 63 [l0, l1, l2] L2 (aR (12, j, t) :: St) S = ev c 228 66 [l0, l1, l2] L2 (aI (S.1 (12, j, t) 11) :: St) S := ev_go i228_63 rfl
theorem i228_66 : insAt 228 66 = some (.iload_n 1, 1, (0, 0, 0, 0), 0) := rfl
theorem s228_66 {c : Nat → List AV → SS → Option Out} {l0 l2 : Option AV} {x : Int32} {L2 : List (Nat × AV)} {St : List AV} {S : SS} : ev c 228 66 [l0, some (aI x), l2] L2 St S = ev c 228 67 [l0, some (aI x), l2] L2 (aI x :: St) S := ev_go i228_66 rfl
theorem i228_67 : insAt 228 67 = some (.aload_n 0, 1, (0, 0, 0, 0), 0) := rfl
theorem s228_67 {c : Nat → List AV → SS → Option Out} {l1 l2 : Option AV} {o : OId} {L2 : List (Nat × AV)} {St : List AV} {S : SS} : ev c 228 67 [some (aR o), l1, l2] L2 St S = ev c 228 68 [some (aR o), l1, l2] L2 (aR o :: St) S := ev_go i228_67 rfl
theorem i228_68 : insAt 228 68 = some (.getfield 38, 3, (12, 9, 0, 0), 373) := rfl
theorem s228_68 {c : Nat → List AV → SS → Option Out} {l0 l1 l2 : Option AV} {j t : Nat} {L2 : List (Nat × AV)} {St : List AV} {S : SS} : ev c 228 68 [l0, l1, l2] L2 (aR (12, j, t) :: St) S = ev c 228 71 [l0, l1, l2] L2 (aI (S.1 (12, j, t) 9) :: St) S := ev_go i228_68 rfl
theorem i228_71 : insAt 228 71 = some (.invokevirtual 125, 3, (238, 4, 2, 12), 399) := rfl
theorem s228_71 {c : Nat → List AV → SS → Option Out} {l0 l1 l2 : Option AV} {t0 : AV} {a0 : Int32} {a1 : Int32} {a2 : Int32} {a3 : Int32} {j t : Nat} {L2 : List (Nat × AV)} {S : SS} : ev c 228 71 [l0, l1, l2] L2 [aI a3, aI a2, aI a1, aI a0, aR (12, j, t), t0] S = ck (c 238 [aR (12, j, t), aI a0, aI a1, aI a2, aI a3] S) (fun v S' => ev c 228 74 [l0, l1, l2] L2 (v.toList ++ [t0]) S') := ev_call i228_71 rfl
theorem i228_74 : insAt 228 74 = some (.if_icmp .ge 5, 3, (0, 0, 0, 0), 0) := rfl
theorem s228_74 {c : Nat → List AV → SS → Option Out} {l0 l1 l2 : Option AV} {x y : Int32} {L2 : List (Nat × AV)} {St : List AV} {S : SS} : ev c 228 74 [l0, l1, l2] L2 (aI y :: aI x :: St) S = if y ≤ x then ev c 228 79 [l0, l1, l2] L2 St S else ev c 228 77 [l0, l1, l2] L2 St S := ev_br i228_74 rfl
theorem i228_77 : insAt 228 77 = some (.iload_n 2, 1, (0, 0, 0, 0), 0) := rfl
theorem s228_77 {c : Nat → List AV → SS → Option Out} {l0 l1 : Option AV} {x : Int32} {L2 : List (Nat × AV)} {St : List AV} {S : SS} : ev c 228 77 [l0, l1, some (aI x)] L2 St S = ev c 228 78 [l0, l1, some (aI x)] L2 (aI x :: St) S := ev_go i228_77 rfl
theorem i228_78 : insAt 228 78 = some (.istore_n 1, 1, (0, 0, 0, 0), 0) := rfl
theorem s228_78 {c : Nat → List AV → SS → Option Out} {l0 l1 l2 : Option AV} {x : Int32} {L2 : List (Nat × AV)} {St : List AV} {S : SS} : ev c 228 78 [l0, l1, l2] L2 (aI x :: St) S = ev c 228 79 [l0, some (aI x), l2] (kil L2 1) St S := ev_go i228_78 rfl
theorem i228_79 : insAt 228 79 = some (.iinc 2 1, 3, (0, 0, 0, 0), 0) := rfl
theorem s228_79 {c : Nat → List AV → SS → Option Out} {l0 l1 : Option AV} {x : Int32} {L2 : List (Nat × AV)} {St : List AV} {S : SS} : ev c 228 79 [l0, l1, some (aI x)] L2 St S = ev c 228 82 [l0, l1, some (aI (x + 1))] (kil L2 2) St S := ev_go i228_79 rfl
theorem i228_82 : insAt 228 82 = some (.goto (-78), 3, (0, 0, 0, 0), 0) := rfl
theorem s228_82 {c : Nat → List AV → SS → Option Out} {l0 l1 l2 : Option AV} {L2 : List (Nat × AV)} {St : List AV} {S : SS} : ev c 228 82 [l0, l1, l2] L2 St S = ev c 228 4 [l0, l1, l2] L2 St S := ev_go i228_82 rfl
theorem i228_85 : insAt 228 85 = some (.iload_n 1, 1, (0, 0, 0, 0), 0) := rfl
theorem s228_85 {c : Nat → List AV → SS → Option Out} {l0 l2 : Option AV} {x : Int32} {L2 : List (Nat × AV)} {St : List AV} {S : SS} : ev c 228 85 [l0, some (aI x), l2] L2 St S = ev c 228 86 [l0, some (aI x), l2] L2 (aI x :: St) S := ev_go i228_85 rfl
theorem i228_86 : insAt 228 86 = some (.ireturn, 1, (0, 0, 0, 0), 0) := rfl
theorem s228_86 {c : Nat → List AV → SS → Option Out} {l0 l1 l2 : Option AV} {x : Int32} {L2 : List (Nat × AV)} {S : SS} : ev c 228 86 [l0, l1, l2] L2 [aI x] S = some (.inl (some (aI x)), S) := ev_end i228_86 rfl
theorem m228 {d : Nat} {o : OId} {S : SS} : evm (d + 1) 228 [aR o] S = ev (evm d) 228 0 [some (aR o), none, none] [] [] S := evm_s (n := 3) rfl (Nat.le_of_ble_eq_true rfl) rfl rfl
/-! FrequencyOfficeModel.isServedFree(I)Z -/
theorem i229_0 : insAt 229 0 = some (.iconst 0, 1, (0, 0, 0, 0), 0) := rfl
theorem s229_0 {c : Nat → List AV → SS → Option Out} {l0 l1 l2 : Option AV} {L2 : List (Nat × AV)} {St : List AV} {S : SS} : ev c 229 0 [l0, l1, l2] L2 St S = ev c 229 1 [l0, l1, l2] L2 (aI 0 :: St) S := ev_go i229_0 rfl
theorem i229_1 : insAt 229 1 = some (.istore_n 2, 1, (0, 0, 0, 0), 0) := rfl
theorem s229_1 {c : Nat → List AV → SS → Option Out} {l0 l1 l2 : Option AV} {x : Int32} {L2 : List (Nat × AV)} {St : List AV} {S : SS} : ev c 229 1 [l0, l1, l2] L2 (aI x :: St) S = ev c 229 2 [l0, l1, some (aI x)] (kil L2 2) St S := ev_go i229_1 rfl
theorem i229_2 : insAt 229 2 = some (.iload_n 2, 1, (0, 0, 0, 0), 0) := rfl
theorem s229_2 {c : Nat → List AV → SS → Option Out} {l0 l1 : Option AV} {x : Int32} {L2 : List (Nat × AV)} {St : List AV} {S : SS} : ev c 229 2 [l0, l1, some (aI x)] L2 St S = ev c 229 3 [l0, l1, some (aI x)] L2 (aI x :: St) S := ev_go i229_2 rfl
theorem i229_3 : insAt 229 3 = some (.aload_n 0, 1, (0, 0, 0, 0), 0) := rfl
theorem s229_3 {c : Nat → List AV → SS → Option Out} {l1 l2 : Option AV} {o : OId} {L2 : List (Nat × AV)} {St : List AV} {S : SS} : ev c 229 3 [some (aR o), l1, l2] L2 St S = ev c 229 4 [some (aR o), l1, l2] L2 (aR o :: St) S := ev_go i229_3 rfl
theorem i229_4 : insAt 229 4 = some (.getfield 7, 3, (12, 0, 0, 0), 364) := rfl
theorem s229_4 {c : Nat → List AV → SS → Option Out} {l0 l1 l2 : Option AV} {j t : Nat} {L2 : List (Nat × AV)} {St : List AV} {S : SS} : ev c 229 4 [l0, l1, l2] L2 (aR (12, j, t) :: St) S = ev c 229 7 [l0, l1, l2] L2 (S.2.2.1 (12, j, t) 0 :: St) S := ev_go i229_4 rfl
theorem i229_7 : insAt 229 7 = some (.bipush 7, 2, (0, 0, 0, 0), 0) := rfl
theorem s229_7 {c : Nat → List AV → SS → Option Out} {l0 l1 l2 : Option AV} {L2 : List (Nat × AV)} {St : List AV} {S : SS} : ev c 229 7 [l0, l1, l2] L2 St S = ev c 229 9 [l0, l1, l2] L2 (aI 7 :: St) S := ev_go i229_7 rfl
theorem i229_9 : insAt 229 9 = some (.iaload, 1, (0, 0, 0, 0), 0) := rfl
theorem s229_9 {c : Nat → List AV → SS → Option Out} {l0 l1 l2 : Option AV} {i : Int32} {o : OId} {L2 : List (Nat × AV)} {St : List AV} {S : SS} : ev c 229 9 [l0, l1, l2] L2 (aI i :: aR o :: St) S = kI o i (ev c 229 10 [l0, l1, l2] L2 (aI (agI S o i.toNatClampNeg) :: St) S) := ev_iaload i229_9
theorem i229_10 : insAt 229 10 = some (.if_icmp .ge 46, 3, (0, 0, 0, 0), 0) := rfl
theorem s229_10 {c : Nat → List AV → SS → Option Out} {l0 l1 l2 : Option AV} {x y : Int32} {L2 : List (Nat × AV)} {St : List AV} {S : SS} : ev c 229 10 [l0, l1, l2] L2 (aI y :: aI x :: St) S = if y ≤ x then ev c 229 56 [l0, l1, l2] L2 St S else ev c 229 13 [l0, l1, l2] L2 St S := ev_br i229_10 rfl
theorem i229_13 : insAt 229 13 = some (.iload_n 2, 1, (0, 0, 0, 0), 0) := rfl
theorem s229_13 {c : Nat → List AV → SS → Option Out} {l0 l1 : Option AV} {x : Int32} {L2 : List (Nat × AV)} {St : List AV} {S : SS} : ev c 229 13 [l0, l1, some (aI x)] L2 St S = ev c 229 14 [l0, l1, some (aI x)] L2 (aI x :: St) S := ev_go i229_13 rfl
theorem i229_14 : insAt 229 14 = some (.aload_n 0, 1, (0, 0, 0, 0), 0) := rfl
theorem s229_14 {c : Nat → List AV → SS → Option Out} {l1 l2 : Option AV} {o : OId} {L2 : List (Nat × AV)} {St : List AV} {S : SS} : ev c 229 14 [some (aR o), l1, l2] L2 St S = ev c 229 15 [some (aR o), l1, l2] L2 (aR o :: St) S := ev_go i229_14 rfl
theorem i229_15 : insAt 229 15 = some (.getfield 38, 3, (12, 9, 0, 0), 373) := rfl
theorem s229_15 {c : Nat → List AV → SS → Option Out} {l0 l1 l2 : Option AV} {j t : Nat} {L2 : List (Nat × AV)} {St : List AV} {S : SS} : ev c 229 15 [l0, l1, l2] L2 (aR (12, j, t) :: St) S = ev c 229 18 [l0, l1, l2] L2 (aI (S.1 (12, j, t) 9) :: St) S := ev_go i229_15 rfl
theorem i229_18 : insAt 229 18 = some (.if_icmp .eq 32, 3, (0, 0, 0, 0), 0) := rfl
theorem s229_18 {c : Nat → List AV → SS → Option Out} {l0 l1 l2 : Option AV} {x y : Int32} {L2 : List (Nat × AV)} {St : List AV} {S : SS} : ev c 229 18 [l0, l1, l2] L2 (aI y :: aI x :: St) S = if x = y then ev c 229 50 [l0, l1, l2] L2 St S else ev c 229 21 [l0, l1, l2] L2 St S := ev_br i229_18 rfl
theorem i229_21 : insAt 229 21 = some (.aload_n 0, 1, (0, 0, 0, 0), 0) := rfl
theorem s229_21 {c : Nat → List AV → SS → Option Out} {l1 l2 : Option AV} {o : OId} {L2 : List (Nat × AV)} {St : List AV} {S : SS} : ev c 229 21 [some (aR o), l1, l2] L2 St S = ev c 229 22 [some (aR o), l1, l2] L2 (aR o :: St) S := ev_go i229_21 rfl
theorem i229_22 : insAt 229 22 = some (.iload_n 2, 1, (0, 0, 0, 0), 0) := rfl
theorem s229_22 {c : Nat → List AV → SS → Option Out} {l0 l1 : Option AV} {x : Int32} {L2 : List (Nat × AV)} {St : List AV} {S : SS} : ev c 229 22 [l0, l1, some (aI x)] L2 St S = ev c 229 23 [l0, l1, some (aI x)] L2 (aI x :: St) S := ev_go i229_22 rfl
theorem i229_23 : insAt 229 23 = some (.invokevirtual 115, 3, (230, 1, 2, 12), 400) := rfl
theorem s229_23 {c : Nat → List AV → SS → Option Out} {l0 l1 l2 : Option AV} {a0 : Int32} {j t : Nat} {L2 : List (Nat × AV)} {S : SS} : ev c 229 23 [l0, l1, l2] L2 [aI a0, aR (12, j, t)] S = ck (c 230 [aR (12, j, t), aI a0] S) (fun v S' => ev c 229 26 [l0, l1, l2] L2 (v.toList ++ []) S') := ev_call i229_23 rfl
theorem i229_26 : insAt 229 26 = some (.ifCond .eq 24, 3, (0, 0, 0, 0), 0) := rfl
theorem s229_26 {c : Nat → List AV → SS → Option Out} {l0 l1 l2 : Option AV} {x : Int32} {L2 : List (Nat × AV)} {St : List AV} {S : SS} : ev c 229 26 [l0, l1, l2] L2 (aI x :: St) S = if x = 0 then ev c 229 50 [l0, l1, l2] L2 St S else ev c 229 29 [l0, l1, l2] L2 St S := ev_br i229_26 rfl
theorem i229_29 : insAt 229 29 = some (.aload_n 0, 1, (0, 0, 0, 0), 0) := rfl
theorem s229_29 {c : Nat → List AV → SS → Option Out} {l1 l2 : Option AV} {o : OId} {L2 : List (Nat × AV)} {St : List AV} {S : SS} : ev c 229 29 [some (aR o), l1, l2] L2 St S = ev c 229 30 [some (aR o), l1, l2] L2 (aR o :: St) S := ev_go i229_29 rfl
theorem i229_30 : insAt 229 30 = some (.iload_n 2, 1, (0, 0, 0, 0), 0) := rfl
theorem s229_30 {c : Nat → List AV → SS → Option Out} {l0 l1 : Option AV} {x : Int32} {L2 : List (Nat × AV)} {St : List AV} {S : SS} : ev c 229 30 [l0, l1, some (aI x)] L2 St S = ev c 229 31 [l0, l1, some (aI x)] L2 (aI x :: St) S := ev_go i229_30 rfl
theorem i229_31 : insAt 229 31 = some (.iconst 3, 1, (0, 0, 0, 0), 0) := rfl
theorem s229_31 {c : Nat → List AV → SS → Option Out} {l0 l1 l2 : Option AV} {L2 : List (Nat × AV)} {St : List AV} {S : SS} : ev c 229 31 [l0, l1, l2] L2 St S = ev c 229 32 [l0, l1, l2] L2 (aI 3 :: St) S := ev_go i229_31 rfl
theorem i229_32 : insAt 229 32 = some (.invokevirtual 75, 3, (231, 2, 2, 12), 396) := rfl
theorem s229_32 {c : Nat → List AV → SS → Option Out} {l0 l1 l2 : Option AV} {a0 : Int32} {a1 : Int32} {j t : Nat} {L2 : List (Nat × AV)} {S : SS} : ev c 229 32 [l0, l1, l2] L2 [aI a1, aI a0, aR (12, j, t)] S = ck (c 231 [aR (12, j, t), aI a0, aI a1] S) (fun v S' => ev c 229 35 [l0, l1, l2] L2 (v.toList ++ []) S') := ev_call i229_32 rfl
theorem i229_35 : insAt 229 35 = some (.iload_n 1, 1, (0, 0, 0, 0), 0) := rfl
theorem s229_35 {c : Nat → List AV → SS → Option Out} {l0 l2 : Option AV} {x : Int32} {L2 : List (Nat × AV)} {St : List AV} {S : SS} : ev c 229 35 [l0, some (aI x), l2] L2 St S = ev c 229 36 [l0, some (aI x), l2] L2 (aI x :: St) S := ev_go i229_35 rfl
theorem i229_36 : insAt 229 36 = some (.isub, 1, (0, 0, 0, 0), 0) := rfl
theorem s229_36 {c : Nat → List AV → SS → Option Out} {l0 l1 l2 : Option AV} {x y : Int32} {L2 : List (Nat × AV)} {St : List AV} {S : SS} : ev c 229 36 [l0, l1, l2] L2 (aI y :: aI x :: St) S = ev c 229 37 [l0, l1, l2] L2 (aI (x - y) :: St) S := ev_go i229_36 rfl
theorem i229_37 : insAt 229 37 = some (.invokestatic 109, 3, (232, 1, 0, 0), 401) := rfl
theorem s229_37 {c : Nat → List AV → SS → Option Out} {l0 l1 l2 : Option AV} {a0 : Int32} {L2 : List (Nat × AV)} {S : SS} : ev c 229 37 [l0, l1, l2] L2 [aI a0] S = ck (c 232 [aI a0] S) (fun v S' => ev c 229 40 [l0, l1, l2] L2 (v.toList ++ []) S') := ev_call i229_37 rfl
theorem i229_40 : insAt 229 40 = some (.aload_n 0, 1, (0, 0, 0, 0), 0) := rfl
theorem s229_40 {c : Nat → List AV → SS → Option Out} {l1 l2 : Option AV} {o : OId} {L2 : List (Nat × AV)} {St : List AV} {S : SS} : ev c 229 40 [some (aR o), l1, l2] L2 St S = ev c 229 41 [some (aR o), l1, l2] L2 (aR o :: St) S := ev_go i229_40 rfl
theorem i229_41 : insAt 229 41 = some (.iload_n 2, 1, (0, 0, 0, 0), 0) := rfl
theorem s229_41 {c : Nat → List AV → SS → Option Out} {l0 l1 : Option AV} {x : Int32} {L2 : List (Nat × AV)} {St : List AV} {S : SS} : ev c 229 41 [l0, l1, some (aI x)] L2 St S = ev c 229 42 [l0, l1, some (aI x)] L2 (aI x :: St) S := ev_go i229_41 rfl
theorem i229_42 : insAt 229 42 = some (.invokevirtual 119, 3, (233, 1, 2, 12), 402) := rfl
theorem s229_42 {c : Nat → List AV → SS → Option Out} {l0 l1 l2 : Option AV} {t0 : AV} {a0 : Int32} {j t : Nat} {L2 : List (Nat × AV)} {S : SS} : ev c 229 42 [l0, l1, l2] L2 [aI a0, aR (12, j, t), t0] S = ck (c 233 [aR (12, j, t), aI a0] S) (fun v S' => ev c 229 45 [l0, l1, l2] L2 (v.toList ++ [t0]) S') := ev_call i229_42 rfl
theorem i229_45 : insAt 229 45 = some (.if_icmp .ge 5, 3, (0, 0, 0, 0), 0) := rfl
theorem s229_45 {c : Nat → List AV → SS → Option Out} {l0 l1 l2 : Option AV} {x y : Int32} {L2 : List (Nat × AV)} {St : List AV} {S : SS} : ev c 229 45 [l0, l1, l2] L2 (aI y :: aI x :: St) S = if y ≤ x then ev c 229 50 [l0, l1, l2] L2 St S else ev c 229 48 [l0, l1, l2] L2 St S := ev_br i229_45 rfl
theorem i229_48 : insAt 229 48 = some (.iconst 0, 1, (0, 0, 0, 0), 0) := rfl
theorem s229_48 {c : Nat → List AV → SS → Option Out} {l0 l1 l2 : Option AV} {L2 : List (Nat × AV)} {St : List AV} {S : SS} : ev c 229 48 [l0, l1, l2] L2 St S = ev c 229 49 [l0, l1, l2] L2 (aI 0 :: St) S := ev_go i229_48 rfl
theorem i229_49 : insAt 229 49 = some (.ireturn, 1, (0, 0, 0, 0), 0) := rfl
theorem s229_49 {c : Nat → List AV → SS → Option Out} {l0 l1 l2 : Option AV} {x : Int32} {L2 : List (Nat × AV)} {S : SS} : ev c 229 49 [l0, l1, l2] L2 [aI x] S = if x = 0 ∨ x = 1 then some (.inl (some (aI x)), S) else none := ev_rt i229_49 rfl
theorem i229_50 : insAt 229 50 = some (.iinc 2 1, 3, (0, 0, 0, 0), 0) := rfl
theorem s229_50 {c : Nat → List AV → SS → Option Out} {l0 l1 : Option AV} {x : Int32} {L2 : List (Nat × AV)} {St : List AV} {S : SS} : ev c 229 50 [l0, l1, some (aI x)] L2 St S = ev c 229 53 [l0, l1, some (aI (x + 1))] (kil L2 2) St S := ev_go i229_50 rfl
theorem i229_53 : insAt 229 53 = some (.goto (-51), 3, (0, 0, 0, 0), 0) := rfl
theorem s229_53 {c : Nat → List AV → SS → Option Out} {l0 l1 l2 : Option AV} {L2 : List (Nat × AV)} {St : List AV} {S : SS} : ev c 229 53 [l0, l1, l2] L2 St S = ev c 229 2 [l0, l1, l2] L2 St S := ev_go i229_53 rfl
theorem i229_56 : insAt 229 56 = some (.iconst 1, 1, (0, 0, 0, 0), 0) := rfl
theorem s229_56 {c : Nat → List AV → SS → Option Out} {l0 l1 l2 : Option AV} {L2 : List (Nat × AV)} {St : List AV} {S : SS} : ev c 229 56 [l0, l1, l2] L2 St S = ev c 229 57 [l0, l1, l2] L2 (aI 1 :: St) S := ev_go i229_56 rfl
theorem i229_57 : insAt 229 57 = some (.ireturn, 1, (0, 0, 0, 0), 0) := rfl
theorem s229_57 {c : Nat → List AV → SS → Option Out} {l0 l1 l2 : Option AV} {x : Int32} {L2 : List (Nat × AV)} {S : SS} : ev c 229 57 [l0, l1, l2] L2 [aI x] S = if x = 0 ∨ x = 1 then some (.inl (some (aI x)), S) else none := ev_rt i229_57 rfl
theorem m229 {d : Nat} {o : OId} {a0 : Int32} {S : SS} : evm (d + 1) 229 [aR o, aI a0] S = ev (evm d) 229 0 [some (aR o), some (aI a0), none] [] [] S := evm_s (n := 3) rfl (Nat.le_of_ble_eq_true rfl) rfl rfl
/-! FrequencyOfficeModel.isLicensed(I)Z -/
theorem i230_0 : insAt 230 0 = some (.aload_n 0, 1, (0, 0, 0, 0), 0) := rfl
theorem s230_0 {c : Nat → List AV → SS → Option Out} {l1 : Option AV} {o : OId} {L2 : List (Nat × AV)} {St : List AV} {S : SS} : ev c 230 0 [some (aR o), l1] L2 St S = ev c 230 1 [some (aR o), l1] L2 (aR o :: St) S := ev_go i230_0 rfl
theorem i230_1 : insAt 230 1 = some (.iload_n 1, 1, (0, 0, 0, 0), 0) := rfl
theorem s230_1 {c : Nat → List AV → SS → Option Out} {l0 : Option AV} {x : Int32} {L2 : List (Nat × AV)} {St : List AV} {S : SS} : ev c 230 1 [l0, some (aI x)] L2 St S = ev c 230 2 [l0, some (aI x)] L2 (aI x :: St) S := ev_go i230_1 rfl
theorem i230_2 : insAt 230 2 = some (.iconst 5, 1, (0, 0, 0, 0), 0) := rfl
theorem s230_2 {c : Nat → List AV → SS → Option Out} {l0 l1 : Option AV} {L2 : List (Nat × AV)} {St : List AV} {S : SS} : ev c 230 2 [l0, l1] L2 St S = ev c 230 3 [l0, l1] L2 (aI 5 :: St) S := ev_go i230_2 rfl
theorem i230_3 : insAt 230 3 = some (.invokevirtual 75, 3, (231, 2, 2, 12), 396) := rfl
theorem s230_3 {c : Nat → List AV → SS → Option Out} {l0 l1 : Option AV} {a0 : Int32} {a1 : Int32} {j t : Nat} {L2 : List (Nat × AV)} {S : SS} : ev c 230 3 [l0, l1] L2 [aI a1, aI a0, aR (12, j, t)] S = ck (c 231 [aR (12, j, t), aI a0, aI a1] S) (fun v S' => ev c 230 6 [l0, l1] L2 (v.toList ++ []) S') := ev_call i230_3 rfl
theorem i230_6 : insAt 230 6 = some (.iconst 1, 1, (0, 0, 0, 0), 0) := rfl
theorem s230_6 {c : Nat → List AV → SS → Option Out} {l0 l1 : Option AV} {L2 : List (Nat × AV)} {St : List AV} {S : SS} : ev c 230 6 [l0, l1] L2 St S = ev c 230 7 [l0, l1] L2 (aI 1 :: St) S := ev_go i230_6 rfl
theorem i230_7 : insAt 230 7 = some (.if_icmp .ne 7, 3, (0, 0, 0, 0), 0) := rfl
theorem s230_7 {c : Nat → List AV → SS → Option Out} {l0 l1 : Option AV} {x y : Int32} {L2 : List (Nat × AV)} {St : List AV} {S : SS} : ev c 230 7 [l0, l1] L2 (aI y :: aI x :: St) S = if x = y then ev c 230 10 [l0, l1] L2 St S else ev c 230 14 [l0, l1] L2 St S := (ev_br i230_7 rfl).trans (ite_not _ _ _)
theorem i230_10 : insAt 230 10 = some (.iconst 1, 1, (0, 0, 0, 0), 0) := rfl
theorem s230_10 {c : Nat → List AV → SS → Option Out} {l0 l1 : Option AV} {L2 : List (Nat × AV)} {St : List AV} {S : SS} : ev c 230 10 [l0, l1] L2 St S = ev c 230 11 [l0, l1] L2 (aI 1 :: St) S := ev_go i230_10 rfl
theorem i230_11 : insAt 230 11 = some (.goto 4, 3, (0, 0, 0, 0), 0) := rfl
theorem s230_11 {c : Nat → List AV → SS → Option Out} {l0 l1 : Option AV} {L2 : List (Nat × AV)} {St : List AV} {S : SS} : ev c 230 11 [l0, l1] L2 St S = ev c 230 15 [l0, l1] L2 St S := ev_go i230_11 rfl
theorem i230_14 : insAt 230 14 = some (.iconst 0, 1, (0, 0, 0, 0), 0) := rfl
theorem s230_14 {c : Nat → List AV → SS → Option Out} {l0 l1 : Option AV} {L2 : List (Nat × AV)} {St : List AV} {S : SS} : ev c 230 14 [l0, l1] L2 St S = ev c 230 15 [l0, l1] L2 (aI 0 :: St) S := ev_go i230_14 rfl
theorem i230_15 : insAt 230 15 = some (.ireturn, 1, (0, 0, 0, 0), 0) := rfl
theorem s230_15 {c : Nat → List AV → SS → Option Out} {l0 l1 : Option AV} {x : Int32} {L2 : List (Nat × AV)} {S : SS} : ev c 230 15 [l0, l1] L2 [aI x] S = if x = 0 ∨ x = 1 then some (.inl (some (aI x)), S) else none := ev_rt i230_15 rfl
theorem m230 {d : Nat} {o : OId} {a0 : Int32} {S : SS} : evm (d + 1) 230 [aR o, aI a0] S = ev (evm d) 230 0 [some (aR o), some (aI a0)] [] [] S := evm_s (n := 2) rfl (Nat.le_of_ble_eq_true rfl) rfl rfl
/-! FrequencyOfficeModel.field(II)I -/
theorem i231_0 : insAt 231 0 = some (.aload_n 0, 1, (0, 0, 0, 0), 0) := rfl
theorem s231_0 {c : Nat → List AV → SS → Option Out} {l1 l2 : Option AV} {o : OId} {L2 : List (Nat × AV)} {St : List AV} {S : SS} : ev c 231 0 [some (aR o), l1, l2] L2 St S = ev c 231 1 [some (aR o), l1, l2] L2 (aR o :: St) S := ev_go i231_0 rfl
theorem i231_1 : insAt 231 1 = some (.getfield 7, 3, (12, 0, 0, 0), 364) := rfl
theorem s231_1 {c : Nat → List AV → SS → Option Out} {l0 l1 l2 : Option AV} {j t : Nat} {L2 : List (Nat × AV)} {St : List AV} {S : SS} : ev c 231 1 [l0, l1, l2] L2 (aR (12, j, t) :: St) S = ev c 231 4 [l0, l1, l2] L2 (S.2.2.1 (12, j, t) 0 :: St) S := ev_go i231_1 rfl
theorem i231_4 : insAt 231 4 = some (.bipush 15, 2, (0, 0, 0, 0), 0) := rfl
theorem s231_4 {c : Nat → List AV → SS → Option Out} {l0 l1 l2 : Option AV} {L2 : List (Nat × AV)} {St : List AV} {S : SS} : ev c 231 4 [l0, l1, l2] L2 St S = ev c 231 6 [l0, l1, l2] L2 (aI 15 :: St) S := ev_go i231_4 rfl
theorem i231_6 : insAt 231 6 = some (.bipush 6, 2, (0, 0, 0, 0), 0) := rfl
theorem s231_6 {c : Nat → List AV → SS → Option Out} {l0 l1 l2 : Option AV} {L2 : List (Nat × AV)} {St : List AV} {S : SS} : ev c 231 6 [l0, l1, l2] L2 St S = ev c 231 8 [l0, l1, l2] L2 (aI 6 :: St) S := ev_go i231_6 rfl
theorem i231_8 : insAt 231 8 = some (.iload_n 1, 1, (0, 0, 0, 0), 0) := rfl
theorem s231_8 {c : Nat → List AV → SS → Option Out} {l0 l2 : Option AV} {x : Int32} {L2 : List (Nat × AV)} {St : List AV} {S : SS} : ev c 231 8 [l0, some (aI x), l2] L2 St S = ev c 231 9 [l0, some (aI x), l2] L2 (aI x :: St) S := ev_go i231_8 rfl
theorem i231_9 : insAt 231 9 = some (.imul, 1, (0, 0, 0, 0), 0) := rfl
theorem s231_9 {c : Nat → List AV → SS → Option Out} {l0 l1 l2 : Option AV} {x y : Int32} {L2 : List (Nat × AV)} {St : List AV} {S : SS} : ev c 231 9 [l0, l1, l2] L2 (aI y :: aI x :: St) S = ev c 231 10 [l0, l1, l2] L2 (aI (x * y) :: St) S := ev_go i231_9 rfl
theorem i231_10 : insAt 231 10 = some (.iadd, 1, (0, 0, 0, 0), 0) := rfl
theorem s231_10 {c : Nat → List AV → SS → Option Out} {l0 l1 l2 : Option AV} {x y : Int32} {L2 : List (Nat × AV)} {St : List AV} {S : SS} : ev c 231 10 [l0, l1, l2] L2 (aI y :: aI x :: St) S = ev c 231 11 [l0, l1, l2] L2 (aI (x + y) :: St) S := ev_go i231_10 rfl
theorem i231_11 : insAt 231 11 = some (.iload_n 2, 1, (0, 0, 0, 0), 0) := rfl
theorem s231_11 {c : Nat → List AV → SS → Option Out} {l0 l1 : Option AV} {x : Int32} {L2 : List (Nat × AV)} {St : List AV} {S : SS} : ev c 231 11 [l0, l1, some (aI x)] L2 St S = ev c 231 12 [l0, l1, some (aI x)] L2 (aI x :: St) S := ev_go i231_11 rfl
theorem i231_12 : insAt 231 12 = some (.iadd, 1, (0, 0, 0, 0), 0) := rfl
theorem s231_12 {c : Nat → List AV → SS → Option Out} {l0 l1 l2 : Option AV} {x y : Int32} {L2 : List (Nat × AV)} {St : List AV} {S : SS} : ev c 231 12 [l0, l1, l2] L2 (aI y :: aI x :: St) S = ev c 231 13 [l0, l1, l2] L2 (aI (x + y) :: St) S := ev_go i231_12 rfl
theorem i231_13 : insAt 231 13 = some (.iaload, 1, (0, 0, 0, 0), 0) := rfl
theorem s231_13 {c : Nat → List AV → SS → Option Out} {l0 l1 l2 : Option AV} {i : Int32} {o : OId} {L2 : List (Nat × AV)} {St : List AV} {S : SS} : ev c 231 13 [l0, l1, l2] L2 (aI i :: aR o :: St) S = kI o i (ev c 231 14 [l0, l1, l2] L2 (aI (agI S o i.toNatClampNeg) :: St) S) := ev_iaload i231_13
theorem i231_14 : insAt 231 14 = some (.ireturn, 1, (0, 0, 0, 0), 0) := rfl
theorem s231_14 {c : Nat → List AV → SS → Option Out} {l0 l1 l2 : Option AV} {x : Int32} {L2 : List (Nat × AV)} {S : SS} : ev c 231 14 [l0, l1, l2] L2 [aI x] S = some (.inl (some (aI x)), S) := ev_end i231_14 rfl
theorem m231 {d : Nat} {o : OId} {a0 : Int32} {a1 : Int32} {S : SS} : evm (d + 1) 231 [aR o, aI a0, aI a1] S = ev (evm d) 231 0 [some (aR o), some (aI a0), some (aI a1)] [] [] S := evm_s (n := 3) rfl (Nat.le_of_ble_eq_true rfl) rfl rfl
/-! FrequencyOfficeModel.size(I)I -/
theorem i232_0 : insAt 232 0 = some (.iload_n 0, 1, (0, 0, 0, 0), 0) := rfl
theorem s232_0 {c : Nat → List AV → SS → Option Out} {x : Int32} {L2 : List (Nat × AV)} {St : List AV} {S : SS} : ev c 232 0 [some (aI x)] L2 St S = ev c 232 1 [some (aI x)] L2 (aI x :: St) S := ev_go i232_0 rfl
theorem i232_1 : insAt 232 1 = some (.ifCond .ge 8, 3, (0, 0, 0, 0), 0) := rfl
theorem s232_1 {c : Nat → List AV → SS → Option Out} {l0 : Option AV} {x : Int32} {L2 : List (Nat × AV)} {St : List AV} {S : SS} : ev c 232 1 [l0] L2 (aI x :: St) S = if 0 ≤ x then ev c 232 9 [l0] L2 St S else ev c 232 4 [l0] L2 St S := ev_br i232_1 rfl
theorem i232_4 : insAt 232 4 = some (.iload_n 0, 1, (0, 0, 0, 0), 0) := rfl
theorem s232_4 {c : Nat → List AV → SS → Option Out} {x : Int32} {L2 : List (Nat × AV)} {St : List AV} {S : SS} : ev c 232 4 [some (aI x)] L2 St S = ev c 232 5 [some (aI x)] L2 (aI x :: St) S := ev_go i232_4 rfl
theorem i232_5 : insAt 232 5 = some (.ineg, 1, (0, 0, 0, 0), 0) := rfl
theorem s232_5 {c : Nat → List AV → SS → Option Out} {l0 : Option AV} {x : Int32} {L2 : List (Nat × AV)} {St : List AV} {S : SS} : ev c 232 5 [l0] L2 (aI x :: St) S = ev c 232 6 [l0] L2 (aI (-x) :: St) S := ev_go i232_5 rfl
theorem i232_6 : insAt 232 6 = some (.goto 4, 3, (0, 0, 0, 0), 0) := rfl
theorem s232_6 {c : Nat → List AV → SS → Option Out} {l0 : Option AV} {L2 : List (Nat × AV)} {St : List AV} {S : SS} : ev c 232 6 [l0] L2 St S = ev c 232 10 [l0] L2 St S := ev_go i232_6 rfl
theorem i232_9 : insAt 232 9 = some (.iload_n 0, 1, (0, 0, 0, 0), 0) := rfl
theorem s232_9 {c : Nat → List AV → SS → Option Out} {x : Int32} {L2 : List (Nat × AV)} {St : List AV} {S : SS} : ev c 232 9 [some (aI x)] L2 St S = ev c 232 10 [some (aI x)] L2 (aI x :: St) S := ev_go i232_9 rfl
theorem i232_10 : insAt 232 10 = some (.ireturn, 1, (0, 0, 0, 0), 0) := rfl
theorem s232_10 {c : Nat → List AV → SS → Option Out} {l0 : Option AV} {x : Int32} {L2 : List (Nat × AV)} {S : SS} : ev c 232 10 [l0] L2 [aI x] S = some (.inl (some (aI x)), S) := ev_end i232_10 rfl
theorem m232 {d : Nat} {a0 : Int32} {S : SS} : evm (d + 1) 232 [aI a0] S = ev (evm d) 232 0 [some (aI a0)] [] [] S := evm_s (n := 1) rfl (Nat.le_of_ble_eq_true rfl) rfl rfl
/-! FrequencyOfficeModel.separationToServed(I)I -/
theorem i233_0 : insAt 233 0 = some (.aload_n 0, 1, (0, 0, 0, 0), 0) := rfl
theorem s233_0 {c : Nat → List AV → SS → Option Out} {l1 : Option AV} {o : OId} {L2 : List (Nat × AV)} {St : List AV} {S : SS} : ev c 233 0 [some (aR o), l1] L2 St S = ev c 233 1 [some (aR o), l1] L2 (aR o :: St) S := ev_go i233_0 rfl
theorem i233_1 : insAt 233 1 = some (.aload_n 0, 1, (0, 0, 0, 0), 0) := rfl
theorem s233_1 {c : Nat → List AV → SS → Option Out} {l1 : Option AV} {o : OId} {L2 : List (Nat × AV)} {St : List AV} {S : SS} : ev c 233 1 [some (aR o), l1] L2 St S = ev c 233 2 [some (aR o), l1] L2 (aR o :: St) S := ev_go i233_1 rfl
theorem i233_2 : insAt 233 2 = some (.getfield 41, 3, (12, 10, 0, 0), 374) := rfl
theorem s233_2 {c : Nat → List AV → SS → Option Out} {l0 l1 : Option AV} {j t : Nat} {L2 : List (Nat × AV)} {St : List AV} {S : SS} : ev c 233 2 [l0, l1] L2 (aR (12, j, t) :: St) S = ev c 233 5 [l0, l1] L2 (aI (S.1 (12, j, t) 10) :: St) S := ev_go i233_2 rfl
theorem i233_5 : insAt 233 5 = some (.aload_n 0, 1, (0, 0, 0, 0), 0) := rfl
theorem s233_5 {c : Nat → List AV → SS → Option Out} {l1 : Option AV} {o : OId} {L2 : List (Nat × AV)} {St : List AV} {S : SS} : ev c 233 5 [some (aR o), l1] L2 St S = ev c 233 6 [some (aR o), l1] L2 (aR o :: St) S := ev_go i233_5 rfl
theorem i233_6 : insAt 233 6 = some (.getfield 44, 3, (12, 11, 0, 0), 375) := rfl
theorem s233_6 {c : Nat → List AV → SS → Option Out} {l0 l1 : Option AV} {j t : Nat} {L2 : List (Nat × AV)} {St : List AV} {S : SS} : ev c 233 6 [l0, l1] L2 (aR (12, j, t) :: St) S = ev c 233 9 [l0, l1] L2 (aI (S.1 (12, j, t) 11) :: St) S := ev_go i233_6 rfl
theorem i233_9 : insAt 233 9 = some (.iload_n 1, 1, (0, 0, 0, 0), 0) := rfl
theorem s233_9 {c : Nat → List AV → SS → Option Out} {l0 : Option AV} {x : Int32} {L2 : List (Nat × AV)} {St : List AV} {S : SS} : ev c 233 9 [l0, some (aI x)] L2 St S = ev c 233 10 [l0, some (aI x)] L2 (aI x :: St) S := ev_go i233_9 rfl
theorem i233_10 : insAt 233 10 = some (.invokevirtual 100, 3, (234, 3, 2, 12), 403) := rfl
theorem s233_10 {c : Nat → List AV → SS → Option Out} {l0 l1 : Option AV} {a0 : Int32} {a1 : Int32} {a2 : Int32} {j t : Nat} {L2 : List (Nat × AV)} {S : SS} : ev c 233 10 [l0, l1] L2 [aI a2, aI a1, aI a0, aR (12, j, t)] S = ck (c 234 [aR (12, j, t), aI a0, aI a1, aI a2] S) (fun v S' => ev c 233 13 [l0, l1] L2 (v.toList ++ []) S') := ev_call i233_10 rfl
theorem i233_13 : insAt 233 13 = some (.aload_n 0, 1, (0, 0, 0, 0), 0) := rfl
theorem s233_13 {c : Nat → List AV → SS → Option Out} {l1 : Option AV} {o : OId} {L2 : List (Nat × AV)} {St : List AV} {S : SS} : ev c 233 13 [some (aR o), l1] L2 St S = ev c 233 14 [some (aR o), l1] L2 (aR o :: St) S := ev_go i233_13 rfl
theorem i233_14 : insAt 233 14 = some (.getfield 38, 3, (12, 9, 0, 0), 373) := rfl
theorem s233_14 {c : Nat → List AV → SS → Option Out} {l0 l1 : Option AV} {j t : Nat} {L2 : List (Nat × AV)} {St : List AV} {S : SS} : ev c 233 14 [l0, l1] L2 (aR (12, j, t) :: St) S = ev c 233 17 [l0, l1] L2 (aI (S.1 (12, j, t) 9) :: St) S := ev_go i233_14 rfl
theorem i233_17 : insAt 233 17 = some (.ifCond .ge 7, 3, (0, 0, 0, 0), 0) := rfl
theorem s233_17 {c : Nat → List AV → SS → Option Out} {l0 l1 : Option AV} {x : Int32} {L2 : List (Nat × AV)} {St : List AV} {S : SS} : ev c 233 17 [l0, l1] L2 (aI x :: St) S = if 0 ≤ x then ev c 233 24 [l0, l1] L2 St S else ev c 233 20 [l0, l1] L2 St S := ev_br i233_17 rfl
theorem i233_20 : insAt 233 20 = some (.iconst 0, 1, (0, 0, 0, 0), 0) := rfl
theorem s233_20 {c : Nat → List AV → SS → Option Out} {l0 l1 : Option AV} {L2 : List (Nat × AV)} {St : List AV} {S : SS} : ev c 233 20 [l0, l1] L2 St S = ev c 233 21 [l0, l1] L2 (aI 0 :: St) S := ev_go i233_20 rfl
theorem i233_21 : insAt 233 21 = some (.goto 12, 3, (0, 0, 0, 0), 0) := rfl
theorem s233_21 {c : Nat → List AV → SS → Option Out} {l0 l1 : Option AV} {L2 : List (Nat × AV)} {St : List AV} {S : SS} : ev c 233 21 [l0, l1] L2 St S = ev c 233 33 [l0, l1] L2 St S := ev_go i233_21 rfl
theorem i233_24 : insAt 233 24 = some (.aload_n 0, 1, (0, 0, 0, 0), 0) := rfl
theorem s233_24 {c : Nat → List AV → SS → Option Out} {l1 : Option AV} {o : OId} {L2 : List (Nat × AV)} {St : List AV} {S : SS} : ev c 233 24 [some (aR o), l1] L2 St S = ev c 233 25 [some (aR o), l1] L2 (aR o :: St) S := ev_go i233_24 rfl
theorem i233_25 : insAt 233 25 = some (.aload_n 0, 1, (0, 0, 0, 0), 0) := rfl
theorem s233_25 {c : Nat → List AV → SS → Option Out} {l1 : Option AV} {o : OId} {L2 : List (Nat × AV)} {St : List AV} {S : SS} : ev c 233 25 [some (aR o), l1] L2 St S = ev c 233 26 [some (aR o), l1] L2 (aR o :: St) S := ev_go i233_25 rfl
theorem i233_26 : insAt 233 26 = some (.getfield 38, 3, (12, 9, 0, 0), 373) := rfl
theorem s233_26 {c : Nat → List AV → SS → Option Out} {l0 l1 : Option AV} {j t : Nat} {L2 : List (Nat × AV)} {St : List AV} {S : SS} : ev c 233 26 [l0, l1] L2 (aR (12, j, t) :: St) S = ev c 233 29 [l0, l1] L2 (aI (S.1 (12, j, t) 9) :: St) S := ev_go i233_26 rfl
theorem i233_29 : insAt 233 29 = some (.iload_n 1, 1, (0, 0, 0, 0), 0) := rfl
theorem s233_29 {c : Nat → List AV → SS → Option Out} {l0 : Option AV} {x : Int32} {L2 : List (Nat × AV)} {St : List AV} {S : SS} : ev c 233 29 [l0, some (aI x)] L2 St S = ev c 233 30 [l0, some (aI x)] L2 (aI x :: St) S := ev_go i233_29 rfl
theorem i233_30 : insAt 233 30 = some (.invokevirtual 106, 3, (237, 2, 2, 12), 404) := rfl
theorem s233_30 {c : Nat → List AV → SS → Option Out} {l0 l1 : Option AV} {t0 : AV} {a0 : Int32} {a1 : Int32} {j t : Nat} {L2 : List (Nat × AV)} {S : SS} : ev c 233 30 [l0, l1] L2 [aI a1, aI a0, aR (12, j, t), t0] S = ck (c 237 [aR (12, j, t), aI a0, aI a1] S) (fun v S' => ev c 233 33 [l0, l1] L2 (v.toList ++ [t0]) S') := ev_call i233_30 rfl
theorem i233_33 : insAt 233 33 = some (.iadd, 1, (0, 0, 0, 0), 0) := rfl
theorem s233_33 {c : Nat → List AV → SS → Option Out} {l0 l1 : Option AV} {x y : Int32} {L2 : List (Nat × AV)} {St : List AV} {S : SS} : ev c 233 33 [l0, l1] L2 (aI y :: aI x :: St) S = ev c 233 34 [l0, l1] L2 (aI (x + y) :: St) S := ev_go i233_33 rfl
theorem i233_34 : insAt 233 34 = some (.ireturn, 1, (0, 0, 0, 0), 0) := rfl
theorem s233_34 {c : Nat → List AV → SS → Option Out} {l0 l1 : Option AV} {x : Int32} {L2 : List (Nat × AV)} {S : SS} : ev c 233 34 [l0, l1] L2 [aI x] S = some (.inl (some (aI x)), S) := ev_end i233_34 rfl
theorem m233 {d : Nat} {o : OId} {a0 : Int32} {S : SS} : evm (d + 1) 233 [aR o, aI a0] S = ev (evm d) 233 0 [some (aR o), some (aI a0)] [] [] S := evm_s (n := 2) rfl (Nat.le_of_ble_eq_true rfl) rfl rfl
/-! FrequencyOfficeModel.baseTo(III)I -/
theorem i234_0 : insAt 234 0 = some (.aload_n 0, 1, (0, 0, 0, 0), 0) := rfl
theorem s234_0 {c : Nat → List AV → SS → Option Out} {l1 l2 l3 l4 : Option AV} {o : OId} {L2 : List (Nat × AV)} {St : List AV} {S : SS} : ev c 234 0 [some (aR o), l1, l2, l3, l4] L2 St S = ev c 234 1 [some (aR o), l1, l2, l3, l4] L2 (aR o :: St) S := ev_go i234_0 rfl
theorem i234_1 : insAt 234 1 = some (.iload_n 1, 1, (0, 0, 0, 0), 0) := rfl
theorem s234_1 {c : Nat → List AV → SS → Option Out} {l0 l2 l3 l4 : Option AV} {x : Int32} {L2 : List (Nat × AV)} {St : List AV} {S : SS} : ev c 234 1 [l0, some (aI x), l2, l3, l4] L2 St S = ev c 234 2 [l0, some (aI x), l2, l3, l4] L2 (aI x :: St) S := ev_go i234_1 rfl
theorem i234_2 : insAt 234 2 = some (.iload_n 2, 1, (0, 0, 0, 0), 0) := rfl
theorem s234_2 {c : Nat → List AV → SS → Option Out} {l0 l1 l3 l4 : Option AV} {x : Int32} {L2 : List (Nat × AV)} {St : List AV} {S : SS} : ev c 234 2 [l0, l1, some (aI x), l3, l4] L2 St S = ev c 234 3 [l0, l1, some (aI x), l3, l4] L2 (aI x :: St) S := ev_go i234_2 rfl
theorem i234_3 : insAt 234 3 = some (.iload_n 3, 1, (0, 0, 0, 0), 0) := rfl
theorem s234_3 {c : Nat → List AV → SS → Option Out} {l0 l1 l2 l4 : Option AV} {x : Int32} {L2 : List (Nat × AV)} {St : List AV} {S : SS} : ev c 234 3 [l0, l1, l2, some (aI x), l4] L2 St S = ev c 234 4 [l0, l1, l2, some (aI x), l4] L2 (aI x :: St) S := ev_go i234_3 rfl
theorem i234_4 : insAt 234 4 = some (.invokevirtual 96, 3, (235, 3, 2, 12), 405) := rfl
theorem s234_4 {c : Nat → List AV → SS → Option Out} {l0 l1 l2 l3 l4 : Option AV} {a0 : Int32} {a1 : Int32} {a2 : Int32} {j t : Nat} {L2 : List (Nat × AV)} {S : SS} : ev c 234 4 [l0, l1, l2, l3, l4] L2 [aI a2, aI a1, aI a0, aR (12, j, t)] S = ck (c 235 [aR (12, j, t), aI a0, aI a1, aI a2] S) (fun v S' => ev c 234 7 [l0, l1, l2, l3, l4] L2 (v.toList ++ []) S') := ev_call i234_4 rfl
theorem i234_7 : insAt 234 7 = some (.istore 4, 2, (0, 0, 0, 0), 0) := rfl
theorem s234_7 {c : Nat → List AV → SS → Option Out} {l0 l1 l2 l3 l4 : Option AV} {x : Int32} {L2 : List (Nat × AV)} {St : List AV} {S : SS} : ev c 234 7 [l0, l1, l2, l3, l4] L2 (aI x :: St) S = ev c 234 9 [l0, l1, l2, l3, some (aI x)] (kil L2 4) St S := ev_go i234_7 rfl
theorem i234_9 : insAt 234 9 = some (.iload 4, 2, (0, 0, 0, 0), 0) := rfl
theorem s234_9 {c : Nat → List AV → SS → Option Out} {l0 l1 l2 l3 : Option AV} {x : Int32} {L2 : List (Nat × AV)} {St : List AV} {S : SS} : ev c 234 9 [l0, l1, l2, l3, some (aI x)] L2 St S = ev c 234 11 [l0, l1, l2, l3, some (aI x)] L2 (aI x :: St) S := ev_go i234_9 rfl
theorem i234_11 : insAt 234 11 = some (.aload_n 0, 1, (0, 0, 0, 0), 0) := rfl
theorem s234_11 {c : Nat → List AV → SS → Option Out} {l1 l2 l3 l4 : Option AV} {o : OId} {L2 : List (Nat × AV)} {St : List AV} {S : SS} : ev c 234 11 [some (aR o), l1, l2, l3, l4] L2 St S = ev c 234 12 [some (aR o), l1, l2, l3, l4] L2 (aR o :: St) S := ev_go i234_11 rfl
theorem i234_12 : insAt 234 12 = some (.getfield 7, 3, (12, 0, 0, 0), 364) := rfl
theorem s234_12 {c : Nat → List AV → SS → Option Out} {l0 l1 l2 l3 l4 : Option AV} {j t : Nat} {L2 : List (Nat × AV)} {St : List AV} {S : SS} : ev c 234 12 [l0, l1, l2, l3, l4] L2 (aR (12, j, t) :: St) S = ev c 234 15 [l0, l1, l2, l3, l4] L2 (S.2.2.1 (12, j, t) 0 :: St) S := ev_go i234_12 rfl
theorem i234_15 : insAt 234 15 = some (.iconst 0, 1, (0, 0, 0, 0), 0) := rfl
theorem s234_15 {c : Nat → List AV → SS → Option Out} {l0 l1 l2 l3 l4 : Option AV} {L2 : List (Nat × AV)} {St : List AV} {S : SS} : ev c 234 15 [l0, l1, l2, l3, l4] L2 St S = ev c 234 16 [l0, l1, l2, l3, l4] L2 (aI 0 :: St) S := ev_go i234_15 rfl
theorem i234_16 : insAt 234 16 = some (.iaload, 1, (0, 0, 0, 0), 0) := rfl
theorem s234_16 {c : Nat → List AV → SS → Option Out} {l0 l1 l2 l3 l4 : Option AV} {i : Int32} {o : OId} {L2 : List (Nat × AV)} {St : List AV} {S : SS} : ev c 234 16 [l0, l1, l2, l3, l4] L2 (aI i :: aR o :: St) S = kI o i (ev c 234 17 [l0, l1, l2, l3, l4] L2 (aI (agI S o i.toNatClampNeg) :: St) S) := ev_iaload i234_16
theorem i234_17 : insAt 234 17 = some (.invokestatic 93, 3, (236, 1, 0, 0), 406) := rfl
theorem s234_17 {c : Nat → List AV → SS → Option Out} {l0 l1 l2 l3 l4 : Option AV} {t0 : AV} {a0 : Int32} {L2 : List (Nat × AV)} {S : SS} : ev c 234 17 [l0, l1, l2, l3, l4] L2 [aI a0, t0] S = ck (c 236 [aI a0] S) (fun v S' => ev c 234 20 [l0, l1, l2, l3, l4] L2 (v.toList ++ [t0]) S') := ev_call i234_17 rfl
theorem i234_20 : insAt 234 20 = some (.if_icmp .ge 7, 3, (0, 0, 0, 0), 0) := rfl
theorem s234_20 {c : Nat → List AV → SS → Option Out} {l0 l1 l2 l3 l4 : Option AV} {x y : Int32} {L2 : List (Nat × AV)} {St : List AV} {S : SS} : ev c 234 20 [l0, l1, l2, l3, l4] L2 (aI y :: aI x :: St) S = if y ≤ x then ev c 234 27 [l0, l1, l2, l3, l4] L2 St S else ev c 234 23 [l0, l1, l2, l3, l4] L2 St S := ev_br i234_20 rfl
theorem i234_23 : insAt 234 23 = some (.iconst 3, 1, (0, 0, 0, 0), 0) := rfl
theorem s234_23 {c : Nat → List AV → SS → Option Out} {l0 l1 l2 l3 l4 : Option AV} {L2 : List (Nat × AV)} {St : List AV} {S : SS} : ev c 234 23 [l0, l1, l2, l3, l4] L2 St S = ev c 234 24 [l0, l1, l2, l3, l4] L2 (aI 3 :: St) S := ev_go i234_23 rfl
theorem i234_24 : insAt 234 24 = some (.goto 40, 3, (0, 0, 0, 0), 0) := rfl
theorem s234_24 {c : Nat → List AV → SS → Option Out} {l0 l1 l2 l3 l4 : Option AV} {L2 : List (Nat × AV)} {St : List AV} {S : SS} : ev c 234 24 [l0, l1, l2, l3, l4] L2 St S = ev c 234 64 [l0, l1, l2, l3, l4] L2 St S := ev_go i234_24 rfl
theorem i234_27 : insAt 234 27 = some (.iload 4, 2, (0, 0, 0, 0), 0) := rfl
theorem s234_27 {c : Nat → List AV → SS → Option Out} {l0 l1 l2 l3 : Option AV} {x : Int32} {L2 : List (Nat × AV)} {St : List AV} {S : SS} : ev c 234 27 [l0, l1, l2, l3, some (aI x)] L2 St S = ev c 234 29 [l0, l1, l2, l3, some (aI x)] L2 (aI x :: St) S := ev_go i234_27 rfl
theorem i234_29 : insAt 234 29 = some (.aload_n 0, 1, (0, 0, 0, 0), 0) := rfl
theorem s234_29 {c : Nat → List AV → SS → Option Out} {l1 l2 l3 l4 : Option AV} {o : OId} {L2 : List (Nat × AV)} {St : List AV} {S : SS} : ev c 234 29 [some (aR o), l1, l2, l3, l4] L2 St S = ev c 234 30 [some (aR o), l1, l2, l3, l4] L2 (aR o :: St) S := ev_go i234_29 rfl
theorem i234_30 : insAt 234 30 = some (.getfield 7, 3, (12, 0, 0, 0), 364) := rfl
theorem s234_30 {c : Nat → List AV → SS → Option Out} {l0 l1 l2 l3 l4 : Option AV} {j t : Nat} {L2 : List (Nat × AV)} {St : List AV} {S : SS} : ev c 234 30 [l0, l1, l2, l3, l4] L2 (aR (12, j, t) :: St) S = ev c 234 33 [l0, l1, l2, l3, l4] L2 (S.2.2.1 (12, j, t) 0 :: St) S := ev_go i234_30 rfl
theorem i234_33 : insAt 234 33 = some (.iconst 1, 1, (0, 0, 0, 0), 0) := rfl
theorem s234_33 {c : Nat → List AV → SS → Option Out} {l0 l1 l2 l3 l4 : Option AV} {L2 : List (Nat × AV)} {St : List AV} {S : SS} : ev c 234 33 [l0, l1, l2, l3, l4] L2 St S = ev c 234 34 [l0, l1, l2, l3, l4] L2 (aI 1 :: St) S := ev_go i234_33 rfl
theorem i234_34 : insAt 234 34 = some (.iaload, 1, (0, 0, 0, 0), 0) := rfl
theorem s234_34 {c : Nat → List AV → SS → Option Out} {l0 l1 l2 l3 l4 : Option AV} {i : Int32} {o : OId} {L2 : List (Nat × AV)} {St : List AV} {S : SS} : ev c 234 34 [l0, l1, l2, l3, l4] L2 (aI i :: aR o :: St) S = kI o i (ev c 234 35 [l0, l1, l2, l3, l4] L2 (aI (agI S o i.toNatClampNeg) :: St) S) := ev_iaload i234_34
theorem i234_35 : insAt 234 35 = some (.invokestatic 93, 3, (236, 1, 0, 0), 406) := rfl
theorem s234_35 {c : Nat → List AV → SS → Option Out} {l0 l1 l2 l3 l4 : Option AV} {t0 : AV} {a0 : Int32} {L2 : List (Nat × AV)} {S : SS} : ev c 234 35 [l0, l1, l2, l3, l4] L2 [aI a0, t0] S = ck (c 236 [aI a0] S) (fun v S' => ev c 234 38 [l0, l1, l2, l3, l4] L2 (v.toList ++ [t0]) S') := ev_call i234_35 rfl
theorem i234_38 : insAt 234 38 = some (.if_icmp .ge 7, 3, (0, 0, 0, 0), 0) := rfl
theorem s234_38 {c : Nat → List AV → SS → Option Out} {l0 l1 l2 l3 l4 : Option AV} {x y : Int32} {L2 : List (Nat × AV)} {St : List AV} {S : SS} : ev c 234 38 [l0, l1, l2, l3, l4] L2 (aI y :: aI x :: St) S = if y ≤ x then ev c 234 45 [l0, l1, l2, l3, l4] L2 St S else ev c 234 41 [l0, l1, l2, l3, l4] L2 St S := ev_br i234_38 rfl
theorem i234_41 : insAt 234 41 = some (.iconst 2, 1, (0, 0, 0, 0), 0) := rfl
theorem s234_41 {c : Nat → List AV → SS → Option Out} {l0 l1 l2 l3 l4 : Option AV} {L2 : List (Nat × AV)} {St : List AV} {S : SS} : ev c 234 41 [l0, l1, l2, l3, l4] L2 St S = ev c 234 42 [l0, l1, l2, l3, l4] L2 (aI 2 :: St) S := ev_go i234_41 rfl
theorem i234_42 : insAt 234 42 = some (.goto 22, 3, (0, 0, 0, 0), 0) := rfl
theorem s234_42 {c : Nat → List AV → SS → Option Out} {l0 l1 l2 l3 l4 : Option AV} {L2 : List (Nat × AV)} {St : List AV} {S : SS} : ev c 234 42 [l0, l1, l2, l3, l4] L2 St S = ev c 234 64 [l0, l1, l2, l3, l4] L2 St S := ev_go i234_42 rfl
theorem i234_45 : insAt 234 45 = some (.iload 4, 2, (0, 0, 0, 0), 0) := rfl
theorem s234_45 {c : Nat → List AV → SS → Option Out} {l0 l1 l2 l3 : Option AV} {x : Int32} {L2 : List (Nat × AV)} {St : List AV} {S : SS} : ev c 234 45 [l0, l1, l2, l3, some (aI x)] L2 St S = ev c 234 47 [l0, l1, l2, l3, some (aI x)] L2 (aI x :: St) S := ev_go i234_45 rfl
theorem i234_47 : insAt 234 47 = some (.aload_n 0, 1, (0, 0, 0, 0), 0) := rfl
theorem s234_47 {c : Nat → List AV → SS → Option Out} {l1 l2 l3 l4 : Option AV} {o : OId} {L2 : List (Nat × AV)} {St : List AV} {S : SS} : ev c 234 47 [some (aR o), l1, l2, l3, l4] L2 St S = ev c 234 48 [some (aR o), l1, l2, l3, l4] L2 (aR o :: St) S := ev_go i234_47 rfl
theorem i234_48 : insAt 234 48 = some (.getfield 7, 3, (12, 0, 0, 0), 364) := rfl
theorem s234_48 {c : Nat → List AV → SS → Option Out} {l0 l1 l2 l3 l4 : Option AV} {j t : Nat} {L2 : List (Nat × AV)} {St : List AV} {S : SS} : ev c 234 48 [l0, l1, l2, l3, l4] L2 (aR (12, j, t) :: St) S = ev c 234 51 [l0, l1, l2, l3, l4] L2 (S.2.2.1 (12, j, t) 0 :: St) S := ev_go i234_48 rfl
theorem i234_51 : insAt 234 51 = some (.iconst 2, 1, (0, 0, 0, 0), 0) := rfl
theorem s234_51 {c : Nat → List AV → SS → Option Out} {l0 l1 l2 l3 l4 : Option AV} {L2 : List (Nat × AV)} {St : List AV} {S : SS} : ev c 234 51 [l0, l1, l2, l3, l4] L2 St S = ev c 234 52 [l0, l1, l2, l3, l4] L2 (aI 2 :: St) S := ev_go i234_51 rfl
theorem i234_52 : insAt 234 52 = some (.iaload, 1, (0, 0, 0, 0), 0) := rfl
theorem s234_52 {c : Nat → List AV → SS → Option Out} {l0 l1 l2 l3 l4 : Option AV} {i : Int32} {o : OId} {L2 : List (Nat × AV)} {St : List AV} {S : SS} : ev c 234 52 [l0, l1, l2, l3, l4] L2 (aI i :: aR o :: St) S = kI o i (ev c 234 53 [l0, l1, l2, l3, l4] L2 (aI (agI S o i.toNatClampNeg) :: St) S) := ev_iaload i234_52
theorem i234_53 : insAt 234 53 = some (.invokestatic 93, 3, (236, 1, 0, 0), 406) := rfl
theorem s234_53 {c : Nat → List AV → SS → Option Out} {l0 l1 l2 l3 l4 : Option AV} {t0 : AV} {a0 : Int32} {L2 : List (Nat × AV)} {S : SS} : ev c 234 53 [l0, l1, l2, l3, l4] L2 [aI a0, t0] S = ck (c 236 [aI a0] S) (fun v S' => ev c 234 56 [l0, l1, l2, l3, l4] L2 (v.toList ++ [t0]) S') := ev_call i234_53 rfl
theorem i234_56 : insAt 234 56 = some (.if_icmp .ge 7, 3, (0, 0, 0, 0), 0) := rfl
theorem s234_56 {c : Nat → List AV → SS → Option Out} {l0 l1 l2 l3 l4 : Option AV} {x y : Int32} {L2 : List (Nat × AV)} {St : List AV} {S : SS} : ev c 234 56 [l0, l1, l2, l3, l4] L2 (aI y :: aI x :: St) S = if y ≤ x then ev c 234 63 [l0, l1, l2, l3, l4] L2 St S else ev c 234 59 [l0, l1, l2, l3, l4] L2 St S := ev_br i234_56 rfl
theorem i234_59 : insAt 234 59 = some (.iconst 1, 1, (0, 0, 0, 0), 0) := rfl
theorem s234_59 {c : Nat → List AV → SS → Option Out} {l0 l1 l2 l3 l4 : Option AV} {L2 : List (Nat × AV)} {St : List AV} {S : SS} : ev c 234 59 [l0, l1, l2, l3, l4] L2 St S = ev c 234 60 [l0, l1, l2, l3, l4] L2 (aI 1 :: St) S := ev_go i234_59 rfl
theorem i234_60 : insAt 234 60 = some (.goto 4, 3, (0, 0, 0, 0), 0) := rfl
theorem s234_60 {c : Nat → List AV → SS → Option Out} {l0 l1 l2 l3 l4 : Option AV} {L2 : List (Nat × AV)} {St : List AV} {S : SS} : ev c 234 60 [l0, l1, l2, l3, l4] L2 St S = ev c 234 64 [l0, l1, l2, l3, l4] L2 St S := ev_go i234_60 rfl
theorem i234_63 : insAt 234 63 = some (.iconst 0, 1, (0, 0, 0, 0), 0) := rfl
theorem s234_63 {c : Nat → List AV → SS → Option Out} {l0 l1 l2 l3 l4 : Option AV} {L2 : List (Nat × AV)} {St : List AV} {S : SS} : ev c 234 63 [l0, l1, l2, l3, l4] L2 St S = ev c 234 64 [l0, l1, l2, l3, l4] L2 (aI 0 :: St) S := ev_go i234_63 rfl
theorem i234_64 : insAt 234 64 = some (.ireturn, 1, (0, 0, 0, 0), 0) := rfl
theorem s234_64 {c : Nat → List AV → SS → Option Out} {l0 l1 l2 l3 l4 : Option AV} {x : Int32} {L2 : List (Nat × AV)} {S : SS} : ev c 234 64 [l0, l1, l2, l3, l4] L2 [aI x] S = some (.inl (some (aI x)), S) := ev_end i234_64 rfl
theorem m234 {d : Nat} {o : OId} {a0 : Int32} {a1 : Int32} {a2 : Int32} {S : SS} : evm (d + 1) 234 [aR o, aI a0, aI a1, aI a2] S = ev (evm d) 234 0 [some (aR o), some (aI a0), some (aI a1), some (aI a2), none] [] [] S := evm_s (n := 5) rfl (Nat.le_of_ble_eq_true rfl) rfl rfl
/-! FrequencyOfficeModel.distanceTo(III)I -/
theorem i235_0 : insAt 235 0 = some (.iload_n 1, 1, (0, 0, 0, 0), 0) := rfl
theorem s235_0 {c : Nat → List AV → SS → Option Out} {l0 l2 l3 : Option AV} {x : Int32} {L2 : List (Nat × AV)} {St : List AV} {S : SS} : ev c 235 0 [l0, some (aI x), l2, l3] L2 St S = ev c 235 1 [l0, some (aI x), l2, l3] L2 (aI x :: St) S := ev_go i235_0 rfl
theorem i235_1 : insAt 235 1 = some (.aload_n 0, 1, (0, 0, 0, 0), 0) := rfl
theorem s235_1 {c : Nat → List AV → SS → Option Out} {l1 l2 l3 : Option AV} {o : OId} {L2 : List (Nat × AV)} {St : List AV} {S : SS} : ev c 235 1 [some (aR o), l1, l2, l3] L2 St S = ev c 235 2 [some (aR o), l1, l2, l3] L2 (aR o :: St) S := ev_go i235_1 rfl
theorem i235_2 : insAt 235 2 = some (.iload_n 3, 1, (0, 0, 0, 0), 0) := rfl
theorem s235_2 {c : Nat → List AV → SS → Option Out} {l0 l1 l2 : Option AV} {x : Int32} {L2 : List (Nat × AV)} {St : List AV} {S : SS} : ev c 235 2 [l0, l1, l2, some (aI x)] L2 St S = ev c 235 3 [l0, l1, l2, some (aI x)] L2 (aI x :: St) S := ev_go i235_2 rfl
theorem i235_3 : insAt 235 3 = some (.iconst 1, 1, (0, 0, 0, 0), 0) := rfl
theorem s235_3 {c : Nat → List AV → SS → Option Out} {l0 l1 l2 l3 : Option AV} {L2 : List (Nat × AV)} {St : List AV} {S : SS} : ev c 235 3 [l0, l1, l2, l3] L2 St S = ev c 235 4 [l0, l1, l2, l3] L2 (aI 1 :: St) S := ev_go i235_3 rfl
theorem i235_4 : insAt 235 4 = some (.invokevirtual 75, 3, (231, 2, 2, 12), 396) := rfl
theorem s235_4 {c : Nat → List AV → SS → Option Out} {l0 l1 l2 l3 : Option AV} {t0 : AV} {a0 : Int32} {a1 : Int32} {j t : Nat} {L2 : List (Nat × AV)} {S : SS} : ev c 235 4 [l0, l1, l2, l3] L2 [aI a1, aI a0, aR (12, j, t), t0] S = ck (c 231 [aR (12, j, t), aI a0, aI a1] S) (fun v S' => ev c 235 7 [l0, l1, l2, l3] L2 (v.toList ++ [t0]) S') := ev_call i235_4 rfl
theorem i235_7 : insAt 235 7 = some (.isub, 1, (0, 0, 0, 0), 0) := rfl
theorem s235_7 {c : Nat → List AV → SS → Option Out} {l0 l1 l2 l3 : Option AV} {x y : Int32} {L2 : List (Nat × AV)} {St : List AV} {S : SS} : ev c 235 7 [l0, l1, l2, l3] L2 (aI y :: aI x :: St) S = ev c 235 8 [l0, l1, l2, l3] L2 (aI (x - y) :: St) S := ev_go i235_7 rfl
theorem i235_8 : insAt 235 8 = some (.invokestatic 93, 3, (236, 1, 0, 0), 406) := rfl
theorem s235_8 {c : Nat → List AV → SS → Option Out} {l0 l1 l2 l3 : Option AV} {a0 : Int32} {L2 : List (Nat × AV)} {S : SS} : ev c 235 8 [l0, l1, l2, l3] L2 [aI a0] S = ck (c 236 [aI a0] S) (fun v S' => ev c 235 11 [l0, l1, l2, l3] L2 (v.toList ++ []) S') := ev_call i235_8 rfl
theorem i235_11 : insAt 235 11 = some (.iload_n 2, 1, (0, 0, 0, 0), 0) := rfl
theorem s235_11 {c : Nat → List AV → SS → Option Out} {l0 l1 l3 : Option AV} {x : Int32} {L2 : List (Nat × AV)} {St : List AV} {S : SS} : ev c 235 11 [l0, l1, some (aI x), l3] L2 St S = ev c 235 12 [l0, l1, some (aI x), l3] L2 (aI x :: St) S := ev_go i235_11 rfl
theorem i235_12 : insAt 235 12 = some (.aload_n 0, 1, (0, 0, 0, 0), 0) := rfl
theorem s235_12 {c : Nat → List AV → SS → Option Out} {l1 l2 l3 : Option AV} {o : OId} {L2 : List (Nat × AV)} {St : List AV} {S : SS} : ev c 235 12 [some (aR o), l1, l2, l3] L2 St S = ev c 235 13 [some (aR o), l1, l2, l3] L2 (aR o :: St) S := ev_go i235_12 rfl
theorem i235_13 : insAt 235 13 = some (.iload_n 3, 1, (0, 0, 0, 0), 0) := rfl
theorem s235_13 {c : Nat → List AV → SS → Option Out} {l0 l1 l2 : Option AV} {x : Int32} {L2 : List (Nat × AV)} {St : List AV} {S : SS} : ev c 235 13 [l0, l1, l2, some (aI x)] L2 St S = ev c 235 14 [l0, l1, l2, some (aI x)] L2 (aI x :: St) S := ev_go i235_13 rfl
theorem i235_14 : insAt 235 14 = some (.iconst 2, 1, (0, 0, 0, 0), 0) := rfl
theorem s235_14 {c : Nat → List AV → SS → Option Out} {l0 l1 l2 l3 : Option AV} {L2 : List (Nat × AV)} {St : List AV} {S : SS} : ev c 235 14 [l0, l1, l2, l3] L2 St S = ev c 235 15 [l0, l1, l2, l3] L2 (aI 2 :: St) S := ev_go i235_14 rfl
theorem i235_15 : insAt 235 15 = some (.invokevirtual 75, 3, (231, 2, 2, 12), 396) := rfl
theorem s235_15 {c : Nat → List AV → SS → Option Out} {l0 l1 l2 l3 : Option AV} {t0 t1 : AV} {a0 : Int32} {a1 : Int32} {j t : Nat} {L2 : List (Nat × AV)} {S : SS} : ev c 235 15 [l0, l1, l2, l3] L2 [aI a1, aI a0, aR (12, j, t), t0, t1] S = ck (c 231 [aR (12, j, t), aI a0, aI a1] S) (fun v S' => ev c 235 18 [l0, l1, l2, l3] L2 (v.toList ++ [t0, t1]) S') := ev_call i235_15 rfl
theorem i235_18 : insAt 235 18 = some (.isub, 1, (0, 0, 0, 0), 0) := rfl
theorem s235_18 {c : Nat → List AV → SS → Option Out} {l0 l1 l2 l3 : Option AV} {x y : Int32} {L2 : List (Nat × AV)} {St : List AV} {S : SS} : ev c 235 18 [l0, l1, l2, l3] L2 (aI y :: aI x :: St) S = ev c 235 19 [l0, l1, l2, l3] L2 (aI (x - y) :: St) S := ev_go i235_18 rfl
theorem i235_19 : insAt 235 19 = some (.invokestatic 93, 3, (236, 1, 0, 0), 406) := rfl
theorem s235_19 {c : Nat → List AV → SS → Option Out} {l0 l1 l2 l3 : Option AV} {t0 : AV} {a0 : Int32} {L2 : List (Nat × AV)} {S : SS} : ev c 235 19 [l0, l1, l2, l3] L2 [aI a0, t0] S = ck (c 236 [aI a0] S) (fun v S' => ev c 235 22 [l0, l1, l2, l3] L2 (v.toList ++ [t0]) S') := ev_call i235_19 rfl
theorem i235_22 : insAt 235 22 = some (.iadd, 1, (0, 0, 0, 0), 0) := rfl
theorem s235_22 {c : Nat → List AV → SS → Option Out} {l0 l1 l2 l3 : Option AV} {x y : Int32} {L2 : List (Nat × AV)} {St : List AV} {S : SS} : ev c 235 22 [l0, l1, l2, l3] L2 (aI y :: aI x :: St) S = ev c 235 23 [l0, l1, l2, l3] L2 (aI (x + y) :: St) S := ev_go i235_22 rfl
theorem i235_23 : insAt 235 23 = some (.ireturn, 1, (0, 0, 0, 0), 0) := rfl
theorem s235_23 {c : Nat → List AV → SS → Option Out} {l0 l1 l2 l3 : Option AV} {x : Int32} {L2 : List (Nat × AV)} {S : SS} : ev c 235 23 [l0, l1, l2, l3] L2 [aI x] S = some (.inl (some (aI x)), S) := ev_end i235_23 rfl
theorem m235 {d : Nat} {o : OId} {a0 : Int32} {a1 : Int32} {a2 : Int32} {S : SS} : evm (d + 1) 235 [aR o, aI a0, aI a1, aI a2] S = ev (evm d) 235 0 [some (aR o), some (aI a0), some (aI a1), some (aI a2)] [] [] S := evm_s (n := 4) rfl (Nat.le_of_ble_eq_true rfl) rfl rfl
/-! FrequencyOfficeModel.square(I)I -/
theorem i236_0 : insAt 236 0 = some (.iload_n 0, 1, (0, 0, 0, 0), 0) := rfl
theorem s236_0 {c : Nat → List AV → SS → Option Out} {x : Int32} {L2 : List (Nat × AV)} {St : List AV} {S : SS} : ev c 236 0 [some (aI x)] L2 St S = ev c 236 1 [some (aI x)] L2 (aI x :: St) S := ev_go i236_0 rfl
theorem i236_1 : insAt 236 1 = some (.iload_n 0, 1, (0, 0, 0, 0), 0) := rfl
theorem s236_1 {c : Nat → List AV → SS → Option Out} {x : Int32} {L2 : List (Nat × AV)} {St : List AV} {S : SS} : ev c 236 1 [some (aI x)] L2 St S = ev c 236 2 [some (aI x)] L2 (aI x :: St) S := ev_go i236_1 rfl
theorem i236_2 : insAt 236 2 = some (.imul, 1, (0, 0, 0, 0), 0) := rfl
theorem s236_2 {c : Nat → List AV → SS → Option Out} {l0 : Option AV} {x y : Int32} {L2 : List (Nat × AV)} {St : List AV} {S : SS} : ev c 236 2 [l0] L2 (aI y :: aI x :: St) S = ev c 236 3 [l0] L2 (aI (x * y) :: St) S := ev_go i236_2 rfl
theorem i236_3 : insAt 236 3 = some (.ireturn, 1, (0, 0, 0, 0), 0) := rfl
theorem s236_3 {c : Nat → List AV → SS → Option Out} {l0 : Option AV} {x : Int32} {L2 : List (Nat × AV)} {S : SS} : ev c 236 3 [l0] L2 [aI x] S = some (.inl (some (aI x)), S) := ev_end i236_3 rfl
theorem m236 {d : Nat} {a0 : Int32} {S : SS} : evm (d + 1) 236 [aI a0] S = ev (evm d) 236 0 [some (aI a0)] [] [] S := evm_s (n := 1) rfl (Nat.le_of_ble_eq_true rfl) rfl rfl
/-! FrequencyOfficeModel.complaints(II)I -/
theorem i237_0 : insAt 237 0 = some (.aload_n 0, 1, (0, 0, 0, 0), 0) := rfl
theorem s237_0 {c : Nat → List AV → SS → Option Out} {l1 l2 : Option AV} {o : OId} {L2 : List (Nat × AV)} {St : List AV} {S : SS} : ev c 237 0 [some (aR o), l1, l2] L2 St S = ev c 237 1 [some (aR o), l1, l2] L2 (aR o :: St) S := ev_go i237_0 rfl
theorem i237_1 : insAt 237 1 = some (.getfield 7, 3, (12, 0, 0, 0), 364) := rfl
theorem s237_1 {c : Nat → List AV → SS → Option Out} {l0 l1 l2 : Option AV} {j t : Nat} {L2 : List (Nat × AV)} {St : List AV} {S : SS} : ev c 237 1 [l0, l1, l2] L2 (aR (12, j, t) :: St) S = ev c 237 4 [l0, l1, l2] L2 (S.2.2.1 (12, j, t) 0 :: St) S := ev_go i237_1 rfl
theorem i237_4 : insAt 237 4 = some (.bipush 57, 2, (0, 0, 0, 0), 0) := rfl
theorem s237_4 {c : Nat → List AV → SS → Option Out} {l0 l1 l2 : Option AV} {L2 : List (Nat × AV)} {St : List AV} {S : SS} : ev c 237 4 [l0, l1, l2] L2 St S = ev c 237 6 [l0, l1, l2] L2 (aI 57 :: St) S := ev_go i237_4 rfl
theorem i237_6 : insAt 237 6 = some (.bipush 7, 2, (0, 0, 0, 0), 0) := rfl
theorem s237_6 {c : Nat → List AV → SS → Option Out} {l0 l1 l2 : Option AV} {L2 : List (Nat × AV)} {St : List AV} {S : SS} : ev c 237 6 [l0, l1, l2] L2 St S = ev c 237 8 [l0, l1, l2] L2 (aI 7 :: St) S := ev_go i237_6 rfl
theorem i237_8 : insAt 237 8 = some (.iload_n 1, 1, (0, 0, 0, 0), 0) := rfl
theorem s237_8 {c : Nat → List AV → SS → Option Out} {l0 l2 : Option AV} {x : Int32} {L2 : List (Nat × AV)} {St : List AV} {S : SS} : ev c 237 8 [l0, some (aI x), l2] L2 St S = ev c 237 9 [l0, some (aI x), l2] L2 (aI x :: St) S := ev_go i237_8 rfl
theorem i237_9 : insAt 237 9 = some (.imul, 1, (0, 0, 0, 0), 0) := rfl
theorem s237_9 {c : Nat → List AV → SS → Option Out} {l0 l1 l2 : Option AV} {x y : Int32} {L2 : List (Nat × AV)} {St : List AV} {S : SS} : ev c 237 9 [l0, l1, l2] L2 (aI y :: aI x :: St) S = ev c 237 10 [l0, l1, l2] L2 (aI (x * y) :: St) S := ev_go i237_9 rfl
theorem i237_10 : insAt 237 10 = some (.iadd, 1, (0, 0, 0, 0), 0) := rfl
theorem s237_10 {c : Nat → List AV → SS → Option Out} {l0 l1 l2 : Option AV} {x y : Int32} {L2 : List (Nat × AV)} {St : List AV} {S : SS} : ev c 237 10 [l0, l1, l2] L2 (aI y :: aI x :: St) S = ev c 237 11 [l0, l1, l2] L2 (aI (x + y) :: St) S := ev_go i237_10 rfl
theorem i237_11 : insAt 237 11 = some (.iload_n 2, 1, (0, 0, 0, 0), 0) := rfl
theorem s237_11 {c : Nat → List AV → SS → Option Out} {l0 l1 : Option AV} {x : Int32} {L2 : List (Nat × AV)} {St : List AV} {S : SS} : ev c 237 11 [l0, l1, some (aI x)] L2 St S = ev c 237 12 [l0, l1, some (aI x)] L2 (aI x :: St) S := ev_go i237_11 rfl
theorem i237_12 : insAt 237 12 = some (.iadd, 1, (0, 0, 0, 0), 0) := rfl
theorem s237_12 {c : Nat → List AV → SS → Option Out} {l0 l1 l2 : Option AV} {x y : Int32} {L2 : List (Nat × AV)} {St : List AV} {S : SS} : ev c 237 12 [l0, l1, l2] L2 (aI y :: aI x :: St) S = ev c 237 13 [l0, l1, l2] L2 (aI (x + y) :: St) S := ev_go i237_12 rfl
theorem i237_13 : insAt 237 13 = some (.iaload, 1, (0, 0, 0, 0), 0) := rfl
theorem s237_13 {c : Nat → List AV → SS → Option Out} {l0 l1 l2 : Option AV} {i : Int32} {o : OId} {L2 : List (Nat × AV)} {St : List AV} {S : SS} : ev c 237 13 [l0, l1, l2] L2 (aI i :: aR o :: St) S = kI o i (ev c 237 14 [l0, l1, l2] L2 (aI (agI S o i.toNatClampNeg) :: St) S) := ev_iaload i237_13
theorem i237_14 : insAt 237 14 = some (.ireturn, 1, (0, 0, 0, 0), 0) := rfl
theorem s237_14 {c : Nat → List AV → SS → Option Out} {l0 l1 l2 : Option AV} {x : Int32} {L2 : List (Nat × AV)} {S : SS} : ev c 237 14 [l0, l1, l2] L2 [aI x] S = some (.inl (some (aI x)), S) := ev_end i237_14 rfl
theorem m237 {d : Nat} {o : OId} {a0 : Int32} {a1 : Int32} {S : SS} : evm (d + 1) 237 [aR o, aI a0, aI a1] S = ev (evm d) 237 0 [some (aR o), some (aI a0), some (aI a1)] [] [] S := evm_s (n := 3) rfl (Nat.le_of_ble_eq_true rfl) rfl rfl
/-! FrequencyOfficeModel.disturbance(IIII)I -/
theorem i238_0 : insAt 238 0 = some (.iconst 0, 1, (0, 0, 0, 0), 0) := rfl
theorem s238_0 {c : Nat → List AV → SS → Option Out} {l0 l1 l2 l3 l4 l5 l6 l7 : Option AV} {L2 : List (Nat × AV)} {St : List AV} {S : SS} : ev c 238 0 [l0, l1, l2, l3, l4, l5, l6, l7] L2 St S = ev c 238 1 [l0, l1, l2, l3, l4, l5, l6, l7] L2 (aI 0 :: St) S := ev_go i238_0 rfl
theorem i238_1 : insAt 238 1 = some (.istore 5, 2, (0, 0, 0, 0), 0) := rfl
theorem s238_1 {c : Nat → List AV → SS → Option Out} {l0 l1 l2 l3 l4 l5 l6 l7 : Option AV} {x : Int32} {L2 : List (Nat × AV)} {St : List AV} {S : SS} : ev c 238 1 [l0, l1, l2, l3, l4, l5, l6, l7] L2 (aI x :: St) S = ev c 238 3 [l0, l1, l2, l3, l4, some (aI x), l6, l7] (kil L2 5) St S := ev_go i238_1 rfl
theorem i238_3 : insAt 238 3 = some (.iconst 0, 1, (0, 0, 0, 0), 0) := rfl
theorem s238_3 {c : Nat → List AV → SS → Option Out} {l0 l1 l2 l3 l4 l5 l6 l7 : Option AV} {L2 : List (Nat × AV)} {St : List AV} {S : SS} : ev c 238 3 [l0, l1, l2, l3, l4, l5, l6, l7] L2 St S = ev c 238 4 [l0, l1, l2, l3, l4, l5, l6, l7] L2 (aI 0 :: St) S := ev_go i238_3 rfl
theorem i238_4 : insAt 238 4 = some (.istore 6, 2, (0, 0, 0, 0), 0) := rfl
theorem s238_4 {c : Nat → List AV → SS → Option Out} {l0 l1 l2 l3 l4 l5 l6 l7 : Option AV} {x : Int32} {L2 : List (Nat × AV)} {St : List AV} {S : SS} : ev c 238 4 [l0, l1, l2, l3, l4, l5, l6, l7] L2 (aI x :: St) S = ev c 238 6 [l0, l1, l2, l3, l4, l5, some (aI x), l7] (kil L2 6) St S := ev_go i238_4 rfl
theorem i238_6 : insAt 238 6 = some (.iload 6, 2, (0, 0, 0, 0), 0) := rfl
theorem s238_6 {c : Nat → List AV → SS → Option Out} {l0 l1 l2 l3 l4 l5 l7 : Option AV} {x : Int32} {L2 : List (Nat × AV)} {St : List AV} {S : SS} : ev c 238 6 [l0, l1, l2, l3, l4, l5, some (aI x), l7] L2 St S = ev c 238 8 [l0, l1, l2, l3, l4, l5, some (aI x), l7] L2 (aI x :: St) S := ev_go i238_6 rfl
theorem i238_8 : insAt 238 8 = some (.aload_n 0, 1, (0, 0, 0, 0), 0) := rfl
theorem s238_8 {c : Nat → List AV → SS → Option Out} {l1 l2 l3 l4 l5 l6 l7 : Option AV} {o : OId} {L2 : List (Nat × AV)} {St : List AV} {S : SS} : ev c 238 8 [some (aR o), l1, l2, l3, l4, l5, l6, l7] L2 St S = ev c 238 9 [some (aR o), l1, l2, l3, l4, l5, l6, l7] L2 (aR o :: St) S := ev_go i238_8 rfl
theorem i238_9 : insAt 238 9 = some (.getfield 7, 3, (12, 0, 0, 0), 364) := rfl
theorem s238_9 {c : Nat → List AV → SS → Option Out} {l0 l1 l2 l3 l4 l5 l6 l7 : Option AV} {j t : Nat} {L2 : List (Nat × AV)} {St : List AV} {S : SS} : ev c 238 9 [l0, l1, l2, l3, l4, l5, l6, l7] L2 (aR (12, j, t) :: St) S = ev c 238 12 [l0, l1, l2, l3, l4, l5, l6, l7] L2 (S.2.2.1 (12, j, t) 0 :: St) S := ev_go i238_9 rfl
theorem i238_12 : insAt 238 12 = some (.bipush 7, 2, (0, 0, 0, 0), 0) := rfl
theorem s238_12 {c : Nat → List AV → SS → Option Out} {l0 l1 l2 l3 l4 l5 l6 l7 : Option AV} {L2 : List (Nat × AV)} {St : List AV} {S : SS} : ev c 238 12 [l0, l1, l2, l3, l4, l5, l6, l7] L2 St S = ev c 238 14 [l0, l1, l2, l3, l4, l5, l6, l7] L2 (aI 7 :: St) S := ev_go i238_12 rfl
theorem i238_14 : insAt 238 14 = some (.iaload, 1, (0, 0, 0, 0), 0) := rfl
theorem s238_14 {c : Nat → List AV → SS → Option Out} {l0 l1 l2 l3 l4 l5 l6 l7 : Option AV} {i : Int32} {o : OId} {L2 : List (Nat × AV)} {St : List AV} {S : SS} : ev c 238 14 [l0, l1, l2, l3, l4, l5, l6, l7] L2 (aI i :: aR o :: St) S = kI o i (ev c 238 15 [l0, l1, l2, l3, l4, l5, l6, l7] L2 (aI (agI S o i.toNatClampNeg) :: St) S) := ev_iaload i238_14
theorem i238_15 : insAt 238 15 = some (.if_icmp .ge 77, 3, (0, 0, 0, 0), 0) := rfl
theorem s238_15 {c : Nat → List AV → SS → Option Out} {l0 l1 l2 l3 l4 l5 l6 l7 : Option AV} {x y : Int32} {L2 : List (Nat × AV)} {St : List AV} {S : SS} : ev c 238 15 [l0, l1, l2, l3, l4, l5, l6, l7] L2 (aI y :: aI x :: St) S = if y ≤ x then ev c 238 92 [l0, l1, l2, l3, l4, l5, l6, l7] L2 St S else ev c 238 18 [l0, l1, l2, l3, l4, l5, l6, l7] L2 St S := ev_br i238_15 rfl
theorem i238_18 : insAt 238 18 = some (.iconst 4, 1, (0, 0, 0, 0), 0) := rfl
theorem s238_18 {c : Nat → List AV → SS → Option Out} {l0 l1 l2 l3 l4 l5 l6 l7 : Option AV} {L2 : List (Nat × AV)} {St : List AV} {S : SS} : ev c 238 18 [l0, l1, l2, l3, l4, l5, l6, l7] L2 St S = ev c 238 19 [l0, l1, l2, l3, l4, l5, l6, l7] L2 (aI 4 :: St) S := ev_go i238_18 rfl
theorem i238_19 : insAt 238 19 = some (.aload_n 0, 1, (0, 0, 0, 0), 0) := rfl
theorem s238_19 {c : Nat → List AV → SS → Option Out} {l1 l2 l3 l4 l5 l6 l7 : Option AV} {o : OId} {L2 : List (Nat × AV)} {St : List AV} {S : SS} : ev c 238 19 [some (aR o), l1, l2, l3, l4, l5, l6, l7] L2 St S = ev c 238 20 [some (aR o), l1, l2, l3, l4, l5, l6, l7] L2 (aR o :: St) S := ev_go i238_19 rfl
theorem i238_20 : insAt 238 20 = some (.iload 6, 2, (0, 0, 0, 0), 0) := rfl
theorem s238_20 {c : Nat → List AV → SS → Option Out} {l0 l1 l2 l3 l4 l5 l7 : Option AV} {x : Int32} {L2 : List (Nat × AV)} {St : List AV} {S : SS} : ev c 238 20 [l0, l1, l2, l3, l4, l5, some (aI x), l7] L2 St S = ev c 238 22 [l0, l1, l2, l3, l4, l5, some (aI x), l7] L2 (aI x :: St) S := ev_go i238_20 rfl
theorem i238_22 : insAt 238 22 = some (.iconst 3, 1, (0, 0, 0, 0), 0) := rfl
theorem s238_22 {c : Nat → List AV → SS → Option Out} {l0 l1 l2 l3 l4 l5 l6 l7 : Option AV} {L2 : List (Nat × AV)} {St : List AV} {S : SS} : ev c 238 22 [l0, l1, l2, l3, l4, l5, l6, l7] L2 St S = ev c 238 23 [l0, l1, l2, l3, l4, l5, l6, l7] L2 (aI 3 :: St) S := ev_go i238_22 rfl
theorem i238_23 : insAt 238 23 = some (.invokevirtual 75, 3, (231, 2, 2, 12), 396) := rfl
theorem s238_23 {c : Nat → List AV → SS → Option Out} {l0 l1 l2 l3 l4 l5 l6 l7 : Option AV} {t0 : AV} {a0 : Int32} {a1 : Int32} {j t : Nat} {L2 : List (Nat × AV)} {S : SS} : ev c 238 23 [l0, l1, l2, l3, l4, l5, l6, l7] L2 [aI a1, aI a0, aR (12, j, t), t0] S = ck (c 231 [aR (12, j, t), aI a0, aI a1] S) (fun v S' => ev c 238 26 [l0, l1, l2, l3, l4, l5, l6, l7] L2 (v.toList ++ [t0]) S') := ev_call i238_23 rfl
theorem i238_26 : insAt 238 26 = some (.iload_n 3, 1, (0, 0, 0, 0), 0) := rfl
theorem s238_26 {c : Nat → List AV → SS → Option Out} {l0 l1 l2 l4 l5 l6 l7 : Option AV} {x : Int32} {L2 : List (Nat × AV)} {St : List AV} {S : SS} : ev c 238 26 [l0, l1, l2, some (aI x), l4, l5, l6, l7] L2 St S = ev c 238 27 [l0, l1, l2, some (aI x), l4, l5, l6, l7] L2 (aI x :: St) S := ev_go i238_26 rfl
theorem i238_27 : insAt 238 27 = some (.isub, 1, (0, 0, 0, 0), 0) := rfl
theorem s238_27 {c : Nat → List AV → SS → Option Out} {l0 l1 l2 l3 l4 l5 l6 l7 : Option AV} {x y : Int32} {L2 : List (Nat × AV)} {St : List AV} {S : SS} : ev c 238 27 [l0, l1, l2, l3, l4, l5, l6, l7] L2 (aI y :: aI x :: St) S = ev c 238 28 [l0, l1, l2, l3, l4, l5, l6, l7] L2 (aI (x - y) :: St) S := ev_go i238_27 rfl
theorem i238_28 : insAt 238 28 = some (.invokestatic 109, 3, (232, 1, 0, 0), 401) := rfl
theorem s238_28 {c : Nat → List AV → SS → Option Out} {l0 l1 l2 l3 l4 l5 l6 l7 : Option AV} {t0 : AV} {a0 : Int32} {L2 : List (Nat × AV)} {S : SS} : ev c 238 28 [l0, l1, l2, l3, l4, l5, l6, l7] L2 [aI a0, t0] S = ck (c 232 [aI a0] S) (fun v S' => ev c 238 31 [l0, l1, l2, l3, l4, l5, l6, l7] L2 (v.toList ++ [t0]) S') := ev_call i238_28 rfl
theorem i238_31 : insAt 238 31 = some (.isub, 1, (0, 0, 0, 0), 0) := rfl
theorem s238_31 {c : Nat → List AV → SS → Option Out} {l0 l1 l2 l3 l4 l5 l6 l7 : Option AV} {x y : Int32} {L2 : List (Nat × AV)} {St : List AV} {S : SS} : ev c 238 31 [l0, l1, l2, l3, l4, l5, l6, l7] L2 (aI y :: aI x :: St) S = ev c 238 32 [l0, l1, l2, l3, l4, l5, l6, l7] L2 (aI (x - y) :: St) S := ev_go i238_31 rfl
theorem i238_32 : insAt 238 32 = some (.istore 7, 2, (0, 0, 0, 0), 0) := rfl
theorem s238_32 {c : Nat → List AV → SS → Option Out} {l0 l1 l2 l3 l4 l5 l6 l7 : Option AV} {x : Int32} {L2 : List (Nat × AV)} {St : List AV} {S : SS} : ev c 238 32 [l0, l1, l2, l3, l4, l5, l6, l7] L2 (aI x :: St) S = ev c 238 34 [l0, l1, l2, l3, l4, l5, l6, some (aI x)] (kil L2 7) St S := ev_go i238_32 rfl
theorem i238_34 : insAt 238 34 = some (.iload 5, 2, (0, 0, 0, 0), 0) := rfl
theorem s238_34 {c : Nat → List AV → SS → Option Out} {l0 l1 l2 l3 l4 l6 l7 : Option AV} {x : Int32} {L2 : List (Nat × AV)} {St : List AV} {S : SS} : ev c 238 34 [l0, l1, l2, l3, l4, some (aI x), l6, l7] L2 St S = ev c 238 36 [l0, l1, l2, l3, l4, some (aI x), l6, l7] L2 (aI x :: St) S := ev_go i238_34 rfl
theorem i238_36 : insAt 238 36 = some (.iload 6, 2, (0, 0, 0, 0), 0) := rfl
theorem s238_36 {c : Nat → List AV → SS → Option Out} {l0 l1 l2 l3 l4 l5 l7 : Option AV} {x : Int32} {L2 : List (Nat × AV)} {St : List AV} {S : SS} : ev c 238 36 [l0, l1, l2, l3, l4, l5, some (aI x), l7] L2 St S = ev c 238 38 [l0, l1, l2, l3, l4, l5, some (aI x), l7] L2 (aI x :: St) S := ev_go i238_36 rfl
theorem i238_38 : insAt 238 38 = some (.iload 4, 2, (0, 0, 0, 0), 0) := rfl
theorem s238_38 {c : Nat → List AV → SS → Option Out} {l0 l1 l2 l3 l5 l6 l7 : Option AV} {x : Int32} {L2 : List (Nat × AV)} {St : List AV} {S : SS} : ev c 238 38 [l0, l1, l2, l3, some (aI x), l5, l6, l7] L2 St S = ev c 238 40 [l0, l1, l2, l3, some (aI x), l5, l6, l7] L2 (aI x :: St) S := ev_go i238_38 rfl
theorem i238_40 : insAt 238 40 = some (.if_icmp .eq 42, 3, (0, 0, 0, 0), 0) := rfl
theorem s238_40 {c : Nat → List AV → SS → Option Out} {l0 l1 l2 l3 l4 l5 l6 l7 : Option AV} {x y : Int32} {L2 : List (Nat × AV)} {St : List AV} {S : SS} : ev c 238 40 [l0, l1, l2, l3, l4, l5, l6, l7] L2 (aI y :: aI x :: St) S = if x = y then ev c 238 82 [l0, l1, l2, l3, l4, l5, l6, l7] L2 St S else ev c 238 43 [l0, l1, l2, l3, l4, l5, l6, l7] L2 St S := ev_br i238_40 rfl
theorem i238_43 : insAt 238 43 = some (.aload_n 0, 1, (0, 0, 0, 0), 0) := rfl
theorem s238_43 {c : Nat → List AV → SS → Option Out} {l1 l2 l3 l4 l5 l6 l7 : Option AV} {o : OId} {L2 : List (Nat × AV)} {St : List AV} {S : SS} : ev c 238 43 [some (aR o), l1, l2, l3, l4, l5, l6, l7] L2 St S = ev c 238 44 [some (aR o), l1, l2, l3, l4, l5, l6, l7] L2 (aR o :: St) S := ev_go i238_43 rfl
theorem i238_44 : insAt 238 44 = some (.iload 6, 2, (0, 0, 0, 0), 0) := rfl
theorem s238_44 {c : Nat → List AV → SS → Option Out} {l0 l1 l2 l3 l4 l5 l7 : Option AV} {x : Int32} {L2 : List (Nat × AV)} {St : List AV} {S : SS} : ev c 238 44 [l0, l1, l2, l3, l4, l5, some (aI x), l7] L2 St S = ev c 238 46 [l0, l1, l2, l3, l4, l5, some (aI x), l7] L2 (aI x :: St) S := ev_go i238_44 rfl
theorem i238_46 : insAt 238 46 = some (.invokevirtual 115, 3, (230, 1, 2, 12), 400) := rfl
theorem s238_46 {c : Nat → List AV → SS → Option Out} {l0 l1 l2 l3 l4 l5 l6 l7 : Option AV} {t0 : AV} {a0 : Int32} {j t : Nat} {L2 : List (Nat × AV)} {S : SS} : ev c 238 46 [l0, l1, l2, l3, l4, l5, l6, l7] L2 [aI a0, aR (12, j, t), t0] S = ck (c 230 [aR (12, j, t), aI a0] S) (fun v S' => ev c 238 49 [l0, l1, l2, l3, l4, l5, l6, l7] L2 (v.toList ++ [t0]) S') := ev_call i238_46 rfl
theorem i238_49 : insAt 238 49 = some (.ifCond .eq 33, 3, (0, 0, 0, 0), 0) := rfl
theorem s238_49 {c : Nat → List AV → SS → Option Out} {l0 l1 l2 l3 l4 l5 l6 l7 : Option AV} {x : Int32} {L2 : List (Nat × AV)} {St : List AV} {S : SS} : ev c 238 49 [l0, l1, l2, l3, l4, l5, l6, l7] L2 (aI x :: St) S = if x = 0 then ev c 238 82 [l0, l1, l2, l3, l4, l5, l6, l7] L2 St S else ev c 238 52 [l0, l1, l2, l3, l4, l5, l6, l7] L2 St S := ev_br i238_49 rfl
theorem i238_52 : insAt 238 52 = some (.aload_n 0, 1, (0, 0, 0, 0), 0) := rfl
theorem s238_52 {c : Nat → List AV → SS → Option Out} {l1 l2 l3 l4 l5 l6 l7 : Option AV} {o : OId} {L2 : List (Nat × AV)} {St : List AV} {S : SS} : ev c 238 52 [some (aR o), l1, l2, l3, l4, l5, l6, l7] L2 St S = ev c 238 53 [some (aR o), l1, l2, l3, l4, l5, l6, l7] L2 (aR o :: St) S := ev_go i238_52 rfl
theorem i238_53 : insAt 238 53 = some (.iload_n 1, 1, (0, 0, 0, 0), 0) := rfl
theorem s238_53 {c : Nat → List AV → SS → Option Out} {l0 l2 l3 l4 l5 l6 l7 : Option AV} {x : Int32} {L2 : List (Nat × AV)} {St : List AV} {S : SS} : ev c 238 53 [l0, some (aI x), l2, l3, l4, l5, l6, l7] L2 St S = ev c 238 54 [l0, some (aI x), l2, l3, l4, l5, l6, l7] L2 (aI x :: St) S := ev_go i238_53 rfl
theorem i238_54 : insAt 238 54 = some (.iload_n 2, 1, (0, 0, 0, 0), 0) := rfl
theorem s238_54 {c : Nat → List AV → SS → Option Out} {l0 l1 l3 l4 l5 l6 l7 : Option AV} {x : Int32} {L2 : List (Nat × AV)} {St : List AV} {S : SS} : ev c 238 54 [l0, l1, some (aI x), l3, l4, l5, l6, l7] L2 St S = ev c 238 55 [l0, l1, some (aI x), l3, l4, l5, l6, l7] L2 (aI x :: St) S := ev_go i238_54 rfl
theorem i238_55 : insAt 238 55 = some (.iload 6, 2, (0, 0, 0, 0), 0) := rfl
theorem s238_55 {c : Nat → List AV → SS → Option Out} {l0 l1 l2 l3 l4 l5 l7 : Option AV} {x : Int32} {L2 : List (Nat × AV)} {St : List AV} {S : SS} : ev c 238 55 [l0, l1, l2, l3, l4, l5, some (aI x), l7] L2 St S = ev c 238 57 [l0, l1, l2, l3, l4, l5, some (aI x), l7] L2 (aI x :: St) S := ev_go i238_55 rfl
theorem i238_57 : insAt 238 57 = some (.invokevirtual 96, 3, (235, 3, 2, 12), 405) := rfl
theorem s238_57 {c : Nat → List AV → SS → Option Out} {l0 l1 l2 l3 l4 l5 l6 l7 : Option AV} {t0 : AV} {a0 : Int32} {a1 : Int32} {a2 : Int32} {j t : Nat} {L2 : List (Nat × AV)} {S : SS} : ev c 238 57 [l0, l1, l2, l3, l4, l5, l6, l7] L2 [aI a2, aI a1, aI a0, aR (12, j, t), t0] S = ck (c 235 [aR (12, j, t), aI a0, aI a1, aI a2] S) (fun v S' => ev c 238 60 [l0, l1, l2, l3, l4, l5, l6, l7] L2 (v.toList ++ [t0]) S') := ev_call i238_57 rfl
theorem i238_60 : insAt 238 60 = some (.aload_n 0, 1, (0, 0, 0, 0), 0) := rfl
theorem s238_60 {c : Nat → List AV → SS → Option Out} {l1 l2 l3 l4 l5 l6 l7 : Option AV} {o : OId} {L2 : List (Nat × AV)} {St : List AV} {S : SS} : ev c 238 60 [some (aR o), l1, l2, l3, l4, l5, l6, l7] L2 St S = ev c 238 61 [some (aR o), l1, l2, l3, l4, l5, l6, l7] L2 (aR o :: St) S := ev_go i238_60 rfl
theorem i238_61 : insAt 238 61 = some (.getfield 7, 3, (12, 0, 0, 0), 364) := rfl
theorem s238_61 {c : Nat → List AV → SS → Option Out} {l0 l1 l2 l3 l4 l5 l6 l7 : Option AV} {j t : Nat} {L2 : List (Nat × AV)} {St : List AV} {S : SS} : ev c 238 61 [l0, l1, l2, l3, l4, l5, l6, l7] L2 (aR (12, j, t) :: St) S = ev c 238 64 [l0, l1, l2, l3, l4, l5, l6, l7] L2 (S.2.2.1 (12, j, t) 0 :: St) S := ev_go i238_61 rfl
theorem i238_64 : insAt 238 64 = some (.iconst 2, 1, (0, 0, 0, 0), 0) := rfl
theorem s238_64 {c : Nat → List AV → SS → Option Out} {l0 l1 l2 l3 l4 l5 l6 l7 : Option AV} {L2 : List (Nat × AV)} {St : List AV} {S : SS} : ev c 238 64 [l0, l1, l2, l3, l4, l5, l6, l7] L2 St S = ev c 238 65 [l0, l1, l2, l3, l4, l5, l6, l7] L2 (aI 2 :: St) S := ev_go i238_64 rfl
theorem i238_65 : insAt 238 65 = some (.iaload, 1, (0, 0, 0, 0), 0) := rfl
theorem s238_65 {c : Nat → List AV → SS → Option Out} {l0 l1 l2 l3 l4 l5 l6 l7 : Option AV} {i : Int32} {o : OId} {L2 : List (Nat × AV)} {St : List AV} {S : SS} : ev c 238 65 [l0, l1, l2, l3, l4, l5, l6, l7] L2 (aI i :: aR o :: St) S = kI o i (ev c 238 66 [l0, l1, l2, l3, l4, l5, l6, l7] L2 (aI (agI S o i.toNatClampNeg) :: St) S) := ev_iaload i238_65
theorem i238_66 : insAt 238 66 = some (.invokestatic 93, 3, (236, 1, 0, 0), 406) := rfl
theorem s238_66 {c : Nat → List AV → SS → Option Out} {l0 l1 l2 l3 l4 l5 l6 l7 : Option AV} {t0 t1 : AV} {a0 : Int32} {L2 : List (Nat × AV)} {S : SS} : ev c 238 66 [l0, l1, l2, l3, l4, l5, l6, l7] L2 [aI a0, t0, t1] S = ck (c 236 [aI a0] S) (fun v S' => ev c 238 69 [l0, l1, l2, l3, l4, l5, l6, l7] L2 (v.toList ++ [t0, t1]) S') := ev_call i238_66 rfl
theorem i238_69 : insAt 238 69 = some (.if_icmp .ge 13, 3, (0, 0, 0, 0), 0) := rfl
theorem s238_69 {c : Nat → List AV → SS → Option Out} {l0 l1 l2 l3 l4 l5 l6 l7 : Option AV} {x y : Int32} {L2 : List (Nat × AV)} {St : List AV} {S : SS} : ev c 238 69 [l0, l1, l2, l3, l4, l5, l6, l7] L2 (aI y :: aI x :: St) S = if y ≤ x then ev c 238 82 [l0, l1, l2, l3, l4, l5, l6, l7] L2 St S else ev c 238 72 [l0, l1, l2, l3, l4, l5, l6, l7] L2 St S := ev_br i238_69 rfl
theorem i238_72 : insAt 238 72 = some (.iload 7, 2, (0, 0, 0, 0), 0) := rfl
theorem s238_72 {c : Nat → List AV → SS → Option Out} {l0 l1 l2 l3 l4 l5 l6 : Option AV} {x : Int32} {L2 : List (Nat × AV)} {St : List AV} {S : SS} : ev c 238 72 [l0, l1, l2, l3, l4, l5, l6, some (aI x)] L2 St S = ev c 238 74 [l0, l1, l2, l3, l4, l5, l6, some (aI x)] L2 (aI x :: St) S := ev_go i238_72 rfl
theorem i238_74 : insAt 238 74 = some (.ifCond .le 8, 3, (0, 0, 0, 0), 0) := rfl
theorem s238_74 {c : Nat → List AV → SS → Option Out} {l0 l1 l2 l3 l4 l5 l6 l7 : Option AV} {x : Int32} {L2 : List (Nat × AV)} {St : List AV} {S : SS} : ev c 238 74 [l0, l1, l2, l3, l4, l5, l6, l7] L2 (aI x :: St) S = if x ≤ 0 then ev c 238 82 [l0, l1, l2, l3, l4, l5, l6, l7] L2 St S else ev c 238 77 [l0, l1, l2, l3, l4, l5, l6, l7] L2 St S := ev_br i238_74 rfl
theorem i238_77 : insAt 238 77 = some (.iload 7, 2, (0, 0, 0, 0), 0) := rfl
theorem s238_77 {c : Nat → List AV → SS → Option Out} {l0 l1 l2 l3 l4 l5 l6 : Option AV} {x : Int32} {L2 : List (Nat × AV)} {St : List AV} {S : SS} : ev c 238 77 [l0, l1, l2, l3, l4, l5, l6, some (aI x)] L2 St S = ev c 238 79 [l0, l1, l2, l3, l4, l5, l6, some (aI x)] L2 (aI x :: St) S := ev_go i238_77 rfl
theorem i238_79 : insAt 238 79 = some (.goto 4, 3, (0, 0, 0, 0), 0) := rfl
theorem s238_79 {c : Nat → List AV → SS → Option Out} {l0 l1 l2 l3 l4 l5 l6 l7 : Option AV} {L2 : List (Nat × AV)} {St : List AV} {S : SS} : ev c 238 79 [l0, l1, l2, l3, l4, l5, l6, l7] L2 St S = ev c 238 83 [l0, l1, l2, l3, l4, l5, l6, l7] L2 St S := ev_go i238_79 rfl
theorem i238_82 : insAt 238 82 = some (.iconst 0, 1, (0, 0, 0, 0), 0) := rfl
theorem s238_82 {c : Nat → List AV → SS → Option Out} {l0 l1 l2 l3 l4 l5 l6 l7 : Option AV} {L2 : List (Nat × AV)} {St : List AV} {S : SS} : ev c 238 82 [l0, l1, l2, l3, l4, l5, l6, l7] L2 St S = ev c 238 83 [l0, l1, l2, l3, l4, l5, l6, l7] L2 (aI 0 :: St) S := ev_go i238_82 rfl
theorem i238_83 : insAt 238 83 = some (.iadd, 1, (0, 0, 0, 0), 0) := rfl
theorem s238_83 {c : Nat → List AV → SS → Option Out} {l0 l1 l2 l3 l4 l5 l6 l7 : Option AV} {x y : Int32} {L2 : List (Nat × AV)} {St : List AV} {S : SS} : ev c 238 83 [l0, l1, l2, l3, l4, l5, l6, l7] L2 (aI y :: aI x :: St) S = ev c 238 84 [l0, l1, l2, l3, l4, l5, l6, l7] L2 (aI (x + y) :: St) S := ev_go i238_83 rfl
theorem i238_84 : insAt 238 84 = some (.istore 5, 2, (0, 0, 0, 0), 0) := rfl
theorem s238_84 {c : Nat → List AV → SS → Option Out} {l0 l1 l2 l3 l4 l5 l6 l7 : Option AV} {x : Int32} {L2 : List (Nat × AV)} {St : List AV} {S : SS} : ev c 238 84 [l0, l1, l2, l3, l4, l5, l6, l7] L2 (aI x :: St) S = ev c 238 86 [l0, l1, l2, l3, l4, some (aI x), l6, l7] (kil L2 5) St S := ev_go i238_84 rfl
theorem i238_86 : insAt 238 86 = some (.iinc 6 1, 3, (0, 0, 0, 0), 0) := rfl
theorem s238_86 {c : Nat → List AV → SS → Option Out} {l0 l1 l2 l3 l4 l5 l7 : Option AV} {x : Int32} {L2 : List (Nat × AV)} {St : List AV} {S : SS} : ev c 238 86 [l0, l1, l2, l3, l4, l5, some (aI x), l7] L2 St S = ev c 238 89 [l0, l1, l2, l3, l4, l5, some (aI (x + 1)), l7] (kil L2 6) St S := ev_go i238_86 rfl
theorem i238_89 : insAt 238 89 = some (.goto (-83), 3, (0, 0, 0, 0), 0) := rfl
theorem s238_89 {c : Nat → List AV → SS → Option Out} {l0 l1 l2 l3 l4 l5 l6 l7 : Option AV} {L2 : List (Nat × AV)} {St : List AV} {S : SS} : ev c 238 89 [l0, l1, l2, l3, l4, l5, l6, l7] L2 St S = ev c 238 6 [l0, l1, l2, l3, l4, l5, l6, l7] L2 St S := ev_go i238_89 rfl
theorem i238_92 : insAt 238 92 = some (.iload 5, 2, (0, 0, 0, 0), 0) := rfl
theorem s238_92 {c : Nat → List AV → SS → Option Out} {l0 l1 l2 l3 l4 l6 l7 : Option AV} {x : Int32} {L2 : List (Nat × AV)} {St : List AV} {S : SS} : ev c 238 92 [l0, l1, l2, l3, l4, some (aI x), l6, l7] L2 St S = ev c 238 94 [l0, l1, l2, l3, l4, some (aI x), l6, l7] L2 (aI x :: St) S := ev_go i238_92 rfl
theorem i238_94 : insAt 238 94 = some (.ireturn, 1, (0, 0, 0, 0), 0) := rfl
theorem s238_94 {c : Nat → List AV → SS → Option Out} {l0 l1 l2 l3 l4 l5 l6 l7 : Option AV} {x : Int32} {L2 : List (Nat × AV)} {S : SS} : ev c 238 94 [l0, l1, l2, l3, l4, l5, l6, l7] L2 [aI x] S = some (.inl (some (aI x)), S) := ev_end i238_94 rfl
theorem m238 {d : Nat} {o : OId} {a0 : Int32} {a1 : Int32} {a2 : Int32} {a3 : Int32} {S : SS} : evm (d + 1) 238 [aR o, aI a0, aI a1, aI a2, aI a3] S = ev (evm d) 238 0 [some (aR o), some (aI a0), some (aI a1), some (aI a2), some (aI a3), none, none, none] [] [] S := evm_s (n := 8) rfl (Nat.le_of_ble_eq_true rfl) rfl rfl
/-! FrequencyOfficeModel.canMove(II)Z -/
theorem i239_0 : insAt 239 0 = some (.iload_n 1, 1, (0, 0, 0, 0), 0) := rfl
theorem s239_0 {c : Nat → List AV → SS → Option Out} {l0 l2 l3 : Option AV} {x : Int32} {L2 : List (Nat × AV)} {St : List AV} {S : SS} : ev c 239 0 [l0, some (aI x), l2, l3] L2 St S = ev c 239 1 [l0, some (aI x), l2, l3] L2 (aI x :: St) S := ev_go i239_0 rfl
theorem i239_1 : insAt 239 1 = some (.aload_n 0, 1, (0, 0, 0, 0), 0) := rfl
theorem s239_1 {c : Nat → List AV → SS → Option Out} {l1 l2 l3 : Option AV} {o : OId} {L2 : List (Nat × AV)} {St : List AV} {S : SS} : ev c 239 1 [some (aR o), l1, l2, l3] L2 St S = ev c 239 2 [some (aR o), l1, l2, l3] L2 (aR o :: St) S := ev_go i239_1 rfl
theorem i239_2 : insAt 239 2 = some (.getfield 38, 3, (12, 9, 0, 0), 373) := rfl
theorem s239_2 {c : Nat → List AV → SS → Option Out} {l0 l1 l2 l3 : Option AV} {j t : Nat} {L2 : List (Nat × AV)} {St : List AV} {S : SS} : ev c 239 2 [l0, l1, l2, l3] L2 (aR (12, j, t) :: St) S = ev c 239 5 [l0, l1, l2, l3] L2 (aI (S.1 (12, j, t) 9) :: St) S := ev_go i239_2 rfl
theorem i239_5 : insAt 239 5 = some (.if_icmp .eq 29, 3, (0, 0, 0, 0), 0) := rfl
theorem s239_5 {c : Nat → List AV → SS → Option Out} {l0 l1 l2 l3 : Option AV} {x y : Int32} {L2 : List (Nat × AV)} {St : List AV} {S : SS} : ev c 239 5 [l0, l1, l2, l3] L2 (aI y :: aI x :: St) S = if x = y then ev c 239 34 [l0, l1, l2, l3] L2 St S else ev c 239 8 [l0, l1, l2, l3] L2 St S := ev_br i239_5 rfl
theorem i239_8 : insAt 239 8 = some (.iload_n 1, 1, (0, 0, 0, 0), 0) := rfl
theorem s239_8 {c : Nat → List AV → SS → Option Out} {l0 l2 l3 : Option AV} {x : Int32} {L2 : List (Nat × AV)} {St : List AV} {S : SS} : ev c 239 8 [l0, some (aI x), l2, l3] L2 St S = ev c 239 9 [l0, some (aI x), l2, l3] L2 (aI x :: St) S := ev_go i239_8 rfl
theorem i239_9 : insAt 239 9 = some (.aload_n 0, 1, (0, 0, 0, 0), 0) := rfl
theorem s239_9 {c : Nat → List AV → SS → Option Out} {l1 l2 l3 : Option AV} {o : OId} {L2 : List (Nat × AV)} {St : List AV} {S : SS} : ev c 239 9 [some (aR o), l1, l2, l3] L2 St S = ev c 239 10 [some (aR o), l1, l2, l3] L2 (aR o :: St) S := ev_go i239_9 rfl
theorem i239_10 : insAt 239 10 = some (.getfield 50, 3, (12, 13, 0, 0), 377) := rfl
theorem s239_10 {c : Nat → List AV → SS → Option Out} {l0 l1 l2 l3 : Option AV} {j t : Nat} {L2 : List (Nat × AV)} {St : List AV} {S : SS} : ev c 239 10 [l0, l1, l2, l3] L2 (aR (12, j, t) :: St) S = ev c 239 13 [l0, l1, l2, l3] L2 (aI (S.1 (12, j, t) 13) :: St) S := ev_go i239_10 rfl
theorem i239_13 : insAt 239 13 = some (.if_icmp .eq 21, 3, (0, 0, 0, 0), 0) := rfl
theorem s239_13 {c : Nat → List AV → SS → Option Out} {l0 l1 l2 l3 : Option AV} {x y : Int32} {L2 : List (Nat × AV)} {St : List AV} {S : SS} : ev c 239 13 [l0, l1, l2, l3] L2 (aI y :: aI x :: St) S = if x = y then ev c 239 34 [l0, l1, l2, l3] L2 St S else ev c 239 16 [l0, l1, l2, l3] L2 St S := ev_br i239_13 rfl
theorem i239_16 : insAt 239 16 = some (.aload_n 0, 1, (0, 0, 0, 0), 0) := rfl
theorem s239_16 {c : Nat → List AV → SS → Option Out} {l1 l2 l3 : Option AV} {o : OId} {L2 : List (Nat × AV)} {St : List AV} {S : SS} : ev c 239 16 [some (aR o), l1, l2, l3] L2 St S = ev c 239 17 [some (aR o), l1, l2, l3] L2 (aR o :: St) S := ev_go i239_16 rfl
theorem i239_17 : insAt 239 17 = some (.iload_n 1, 1, (0, 0, 0, 0), 0) := rfl
theorem s239_17 {c : Nat → List AV → SS → Option Out} {l0 l2 l3 : Option AV} {x : Int32} {L2 : List (Nat × AV)} {St : List AV} {S : SS} : ev c 239 17 [l0, some (aI x), l2, l3] L2 St S = ev c 239 18 [l0, some (aI x), l2, l3] L2 (aI x :: St) S := ev_go i239_17 rfl
theorem i239_18 : insAt 239 18 = some (.invokevirtual 115, 3, (230, 1, 2, 12), 400) := rfl
theorem s239_18 {c : Nat → List AV → SS → Option Out} {l0 l1 l2 l3 : Option AV} {a0 : Int32} {j t : Nat} {L2 : List (Nat × AV)} {S : SS} : ev c 239 18 [l0, l1, l2, l3] L2 [aI a0, aR (12, j, t)] S = ck (c 230 [aR (12, j, t), aI a0] S) (fun v S' => ev c 239 21 [l0, l1, l2, l3] L2 (v.toList ++ []) S') := ev_call i239_18 rfl
theorem i239_21 : insAt 239 21 = some (.ifCond .eq 13, 3, (0, 0, 0, 0), 0) := rfl
theorem s239_21 {c : Nat → List AV → SS → Option Out} {l0 l1 l2 l3 : Option AV} {x : Int32} {L2 : List (Nat × AV)} {St : List AV} {S : SS} : ev c 239 21 [l0, l1, l2, l3] L2 (aI x :: St) S = if x = 0 then ev c 239 34 [l0, l1, l2, l3] L2 St S else ev c 239 24 [l0, l1, l2, l3] L2 St S := ev_br i239_21 rfl
theorem i239_24 : insAt 239 24 = some (.aload_n 0, 1, (0, 0, 0, 0), 0) := rfl
theorem s239_24 {c : Nat → List AV → SS → Option Out} {l1 l2 l3 : Option AV} {o : OId} {L2 : List (Nat × AV)} {St : List AV} {S : SS} : ev c 239 24 [some (aR o), l1, l2, l3] L2 St S = ev c 239 25 [some (aR o), l1, l2, l3] L2 (aR o :: St) S := ev_go i239_24 rfl
theorem i239_25 : insAt 239 25 = some (.iload_n 1, 1, (0, 0, 0, 0), 0) := rfl
theorem s239_25 {c : Nat → List AV → SS → Option Out} {l0 l2 l3 : Option AV} {x : Int32} {L2 : List (Nat × AV)} {St : List AV} {S : SS} : ev c 239 25 [l0, some (aI x), l2, l3] L2 St S = ev c 239 26 [l0, some (aI x), l2, l3] L2 (aI x :: St) S := ev_go i239_25 rfl
theorem i239_26 : insAt 239 26 = some (.iconst 3, 1, (0, 0, 0, 0), 0) := rfl
theorem s239_26 {c : Nat → List AV → SS → Option Out} {l0 l1 l2 l3 : Option AV} {L2 : List (Nat × AV)} {St : List AV} {S : SS} : ev c 239 26 [l0, l1, l2, l3] L2 St S = ev c 239 27 [l0, l1, l2, l3] L2 (aI 3 :: St) S := ev_go i239_26 rfl
theorem i239_27 : insAt 239 27 = some (.invokevirtual 75, 3, (231, 2, 2, 12), 396) := rfl
theorem s239_27 {c : Nat → List AV → SS → Option Out} {l0 l1 l2 l3 : Option AV} {a0 : Int32} {a1 : Int32} {j t : Nat} {L2 : List (Nat × AV)} {S : SS} : ev c 239 27 [l0, l1, l2, l3] L2 [aI a1, aI a0, aR (12, j, t)] S = ck (c 231 [aR (12, j, t), aI a0, aI a1] S) (fun v S' => ev c 239 30 [l0, l1, l2, l3] L2 (v.toList ++ []) S') := ev_call i239_27 rfl
theorem i239_30 : insAt 239 30 = some (.iload_n 2, 1, (0, 0, 0, 0), 0) := rfl
theorem s239_30 {c : Nat → List AV → SS → Option Out} {l0 l1 l3 : Option AV} {x : Int32} {L2 : List (Nat × AV)} {St : List AV} {S : SS} : ev c 239 30 [l0, l1, some (aI x), l3] L2 St S = ev c 239 31 [l0, l1, some (aI x), l3] L2 (aI x :: St) S := ev_go i239_30 rfl
theorem i239_31 : insAt 239 31 = some (.if_icmp .ne 5, 3, (0, 0, 0, 0), 0) := rfl
theorem s239_31 {c : Nat → List AV → SS → Option Out} {l0 l1 l2 l3 : Option AV} {x y : Int32} {L2 : List (Nat × AV)} {St : List AV} {S : SS} : ev c 239 31 [l0, l1, l2, l3] L2 (aI y :: aI x :: St) S = if x = y then ev c 239 34 [l0, l1, l2, l3] L2 St S else ev c 239 36 [l0, l1, l2, l3] L2 St S := (ev_br i239_31 rfl).trans (ite_not _ _ _)
theorem i239_34 : insAt 239 34 = some (.iconst 0, 1, (0, 0, 0, 0), 0) := rfl
theorem s239_34 {c : Nat → List AV → SS → Option Out} {l0 l1 l2 l3 : Option AV} {L2 : List (Nat × AV)} {St : List AV} {S : SS} : ev c 239 34 [l0, l1, l2, l3] L2 St S = ev c 239 35 [l0, l1, l2, l3] L2 (aI 0 :: St) S := ev_go i239_34 rfl
theorem i239_35 : insAt 239 35 = some (.ireturn, 1, (0, 0, 0, 0), 0) := rfl
theorem s239_35 {c : Nat → List AV → SS → Option Out} {l0 l1 l2 l3 : Option AV} {x : Int32} {L2 : List (Nat × AV)} {S : SS} : ev c 239 35 [l0, l1, l2, l3] L2 [aI x] S = if x = 0 ∨ x = 1 then some (.inl (some (aI x)), S) else none := ev_rt i239_35 rfl
theorem i239_36 : insAt 239 36 = some (.iconst 0, 1, (0, 0, 0, 0), 0) := rfl
theorem s239_36 {c : Nat → List AV → SS → Option Out} {l0 l1 l2 l3 : Option AV} {L2 : List (Nat × AV)} {St : List AV} {S : SS} : ev c 239 36 [l0, l1, l2, l3] L2 St S = ev c 239 37 [l0, l1, l2, l3] L2 (aI 0 :: St) S := ev_go i239_36 rfl
theorem i239_37 : insAt 239 37 = some (.istore_n 3, 1, (0, 0, 0, 0), 0) := rfl
theorem s239_37 {c : Nat → List AV → SS → Option Out} {l0 l1 l2 l3 : Option AV} {x : Int32} {L2 : List (Nat × AV)} {St : List AV} {S : SS} : ev c 239 37 [l0, l1, l2, l3] L2 (aI x :: St) S = ev c 239 38 [l0, l1, l2, some (aI x)] (kil L2 3) St S := ev_go i239_37 rfl
theorem i239_38 : insAt 239 38 = some (.iload_n 3, 1, (0, 0, 0, 0), 0) := rfl
theorem s239_38 {c : Nat → List AV → SS → Option Out} {l0 l1 l2 : Option AV} {x : Int32} {L2 : List (Nat × AV)} {St : List AV} {S : SS} : ev c 239 38 [l0, l1, l2, some (aI x)] L2 St S = ev c 239 39 [l0, l1, l2, some (aI x)] L2 (aI x :: St) S := ev_go i239_38 rfl
theorem i239_39 : insAt 239 39 = some (.aload_n 0, 1, (0, 0, 0, 0), 0) := rfl
theorem s239_39 {c : Nat → List AV → SS → Option Out} {l1 l2 l3 : Option AV} {o : OId} {L2 : List (Nat × AV)} {St : List AV} {S : SS} : ev c 239 39 [some (aR o), l1, l2, l3] L2 St S = ev c 239 40 [some (aR o), l1, l2, l3] L2 (aR o :: St) S := ev_go i239_39 rfl
theorem i239_40 : insAt 239 40 = some (.getfield 7, 3, (12, 0, 0, 0), 364) := rfl
theorem s239_40 {c : Nat → List AV → SS → Option Out} {l0 l1 l2 l3 : Option AV} {j t : Nat} {L2 : List (Nat × AV)} {St : List AV} {S : SS} : ev c 239 40 [l0, l1, l2, l3] L2 (aR (12, j, t) :: St) S = ev c 239 43 [l0, l1, l2, l3] L2 (S.2.2.1 (12, j, t) 0 :: St) S := ev_go i239_40 rfl
theorem i239_43 : insAt 239 43 = some (.bipush 7, 2, (0, 0, 0, 0), 0) := rfl
theorem s239_43 {c : Nat → List AV → SS → Option Out} {l0 l1 l2 l3 : Option AV} {L2 : List (Nat × AV)} {St : List AV} {S : SS} : ev c 239 43 [l0, l1, l2, l3] L2 St S = ev c 239 45 [l0, l1, l2, l3] L2 (aI 7 :: St) S := ev_go i239_43 rfl
theorem i239_45 : insAt 239 45 = some (.iaload, 1, (0, 0, 0, 0), 0) := rfl
theorem s239_45 {c : Nat → List AV → SS → Option Out} {l0 l1 l2 l3 : Option AV} {i : Int32} {o : OId} {L2 : List (Nat × AV)} {St : List AV} {S : SS} : ev c 239 45 [l0, l1, l2, l3] L2 (aI i :: aR o :: St) S = kI o i (ev c 239 46 [l0, l1, l2, l3] L2 (aI (agI S o i.toNatClampNeg) :: St) S) := ev_iaload i239_45
theorem i239_46 : insAt 239 46 = some (.if_icmp .ge 52, 3, (0, 0, 0, 0), 0) := rfl
theorem s239_46 {c : Nat → List AV → SS → Option Out} {l0 l1 l2 l3 : Option AV} {x y : Int32} {L2 : List (Nat × AV)} {St : List AV} {S : SS} : ev c 239 46 [l0, l1, l2, l3] L2 (aI y :: aI x :: St) S = if y ≤ x then ev c 239 98 [l0, l1, l2, l3] L2 St S else ev c 239 49 [l0, l1, l2, l3] L2 St S := ev_br i239_46 rfl
theorem i239_49 : insAt 239 49 = some (.iload_n 3, 1, (0, 0, 0, 0), 0) := rfl
theorem s239_49 {c : Nat → List AV → SS → Option Out} {l0 l1 l2 : Option AV} {x : Int32} {L2 : List (Nat × AV)} {St : List AV} {S : SS} : ev c 239 49 [l0, l1, l2, some (aI x)] L2 St S = ev c 239 50 [l0, l1, l2, some (aI x)] L2 (aI x :: St) S := ev_go i239_49 rfl
theorem i239_50 : insAt 239 50 = some (.iload_n 1, 1, (0, 0, 0, 0), 0) := rfl
theorem s239_50 {c : Nat → List AV → SS → Option Out} {l0 l2 l3 : Option AV} {x : Int32} {L2 : List (Nat × AV)} {St : List AV} {S : SS} : ev c 239 50 [l0, some (aI x), l2, l3] L2 St S = ev c 239 51 [l0, some (aI x), l2, l3] L2 (aI x :: St) S := ev_go i239_50 rfl
theorem i239_51 : insAt 239 51 = some (.if_icmp .eq 41, 3, (0, 0, 0, 0), 0) := rfl
theorem s239_51 {c : Nat → List AV → SS → Option Out} {l0 l1 l2 l3 : Option AV} {x y : Int32} {L2 : List (Nat × AV)} {St : List AV} {S : SS} : ev c 239 51 [l0, l1, l2, l3] L2 (aI y :: aI x :: St) S = if x = y then ev c 239 92 [l0, l1, l2, l3] L2 St S else ev c 239 54 [l0, l1, l2, l3] L2 St S := ev_br i239_51 rfl
theorem i239_54 : insAt 239 54 = some (.iload_n 3, 1, (0, 0, 0, 0), 0) := rfl
theorem s239_54 {c : Nat → List AV → SS → Option Out} {l0 l1 l2 : Option AV} {x : Int32} {L2 : List (Nat × AV)} {St : List AV} {S : SS} : ev c 239 54 [l0, l1, l2, some (aI x)] L2 St S = ev c 239 55 [l0, l1, l2, some (aI x)] L2 (aI x :: St) S := ev_go i239_54 rfl
theorem i239_55 : insAt 239 55 = some (.aload_n 0, 1, (0, 0, 0, 0), 0) := rfl
theorem s239_55 {c : Nat → List AV → SS → Option Out} {l1 l2 l3 : Option AV} {o : OId} {L2 : List (Nat × AV)} {St : List AV} {S : SS} : ev c 239 55 [some (aR o), l1, l2, l3] L2 St S = ev c 239 56 [some (aR o), l1, l2, l3] L2 (aR o :: St) S := ev_go i239_55 rfl
theorem i239_56 : insAt 239 56 = some (.getfield 38, 3, (12, 9, 0, 0), 373) := rfl
theorem s239_56 {c : Nat → List AV → SS → Option Out} {l0 l1 l2 l3 : Option AV} {j t : Nat} {L2 : List (Nat × AV)} {St : List AV} {S : SS} : ev c 239 56 [l0, l1, l2, l3] L2 (aR (12, j, t) :: St) S = ev c 239 59 [l0, l1, l2, l3] L2 (aI (S.1 (12, j, t) 9) :: St) S := ev_go i239_56 rfl
theorem i239_59 : insAt 239 59 = some (.if_icmp .eq 33, 3, (0, 0, 0, 0), 0) := rfl
theorem s239_59 {c : Nat → List AV → SS → Option Out} {l0 l1 l2 l3 : Option AV} {x y : Int32} {L2 : List (Nat × AV)} {St : List AV} {S : SS} : ev c 239 59 [l0, l1, l2, l3] L2 (aI y :: aI x :: St) S = if x = y then ev c 239 92 [l0, l1, l2, l3] L2 St S else ev c 239 62 [l0, l1, l2, l3] L2 St S := ev_br i239_59 rfl
theorem i239_62 : insAt 239 62 = some (.aload_n 0, 1, (0, 0, 0, 0), 0) := rfl
theorem s239_62 {c : Nat → List AV → SS → Option Out} {l1 l2 l3 : Option AV} {o : OId} {L2 : List (Nat × AV)} {St : List AV} {S : SS} : ev c 239 62 [some (aR o), l1, l2, l3] L2 St S = ev c 239 63 [some (aR o), l1, l2, l3] L2 (aR o :: St) S := ev_go i239_62 rfl
theorem i239_63 : insAt 239 63 = some (.iload_n 3, 1, (0, 0, 0, 0), 0) := rfl
theorem s239_63 {c : Nat → List AV → SS → Option Out} {l0 l1 l2 : Option AV} {x : Int32} {L2 : List (Nat × AV)} {St : List AV} {S : SS} : ev c 239 63 [l0, l1, l2, some (aI x)] L2 St S = ev c 239 64 [l0, l1, l2, some (aI x)] L2 (aI x :: St) S := ev_go i239_63 rfl
theorem i239_64 : insAt 239 64 = some (.invokevirtual 115, 3, (230, 1, 2, 12), 400) := rfl
theorem s239_64 {c : Nat → List AV → SS → Option Out} {l0 l1 l2 l3 : Option AV} {a0 : Int32} {j t : Nat} {L2 : List (Nat × AV)} {S : SS} : ev c 239 64 [l0, l1, l2, l3] L2 [aI a0, aR (12, j, t)] S = ck (c 230 [aR (12, j, t), aI a0] S) (fun v S' => ev c 239 67 [l0, l1, l2, l3] L2 (v.toList ++ []) S') := ev_call i239_64 rfl
theorem i239_67 : insAt 239 67 = some (.ifCond .eq 25, 3, (0, 0, 0, 0), 0) := rfl
theorem s239_67 {c : Nat → List AV → SS → Option Out} {l0 l1 l2 l3 : Option AV} {x : Int32} {L2 : List (Nat × AV)} {St : List AV} {S : SS} : ev c 239 67 [l0, l1, l2, l3] L2 (aI x :: St) S = if x = 0 then ev c 239 92 [l0, l1, l2, l3] L2 St S else ev c 239 70 [l0, l1, l2, l3] L2 St S := ev_br i239_67 rfl
theorem i239_70 : insAt 239 70 = some (.aload_n 0, 1, (0, 0, 0, 0), 0) := rfl
theorem s239_70 {c : Nat → List AV → SS → Option Out} {l1 l2 l3 : Option AV} {o : OId} {L2 : List (Nat × AV)} {St : List AV} {S : SS} : ev c 239 70 [some (aR o), l1, l2, l3] L2 St S = ev c 239 71 [some (aR o), l1, l2, l3] L2 (aR o :: St) S := ev_go i239_70 rfl
theorem i239_71 : insAt 239 71 = some (.iload_n 3, 1, (0, 0, 0, 0), 0) := rfl
theorem s239_71 {c : Nat → List AV → SS → Option Out} {l0 l1 l2 : Option AV} {x : Int32} {L2 : List (Nat × AV)} {St : List AV} {S : SS} : ev c 239 71 [l0, l1, l2, some (aI x)] L2 St S = ev c 239 72 [l0, l1, l2, some (aI x)] L2 (aI x :: St) S := ev_go i239_71 rfl
theorem i239_72 : insAt 239 72 = some (.iconst 3, 1, (0, 0, 0, 0), 0) := rfl
theorem s239_72 {c : Nat → List AV → SS → Option Out} {l0 l1 l2 l3 : Option AV} {L2 : List (Nat × AV)} {St : List AV} {S : SS} : ev c 239 72 [l0, l1, l2, l3] L2 St S = ev c 239 73 [l0, l1, l2, l3] L2 (aI 3 :: St) S := ev_go i239_72 rfl
theorem i239_73 : insAt 239 73 = some (.invokevirtual 75, 3, (231, 2, 2, 12), 396) := rfl
theorem s239_73 {c : Nat → List AV → SS → Option Out} {l0 l1 l2 l3 : Option AV} {a0 : Int32} {a1 : Int32} {j t : Nat} {L2 : List (Nat × AV)} {S : SS} : ev c 239 73 [l0, l1, l2, l3] L2 [aI a1, aI a0, aR (12, j, t)] S = ck (c 231 [aR (12, j, t), aI a0, aI a1] S) (fun v S' => ev c 239 76 [l0, l1, l2, l3] L2 (v.toList ++ []) S') := ev_call i239_73 rfl
theorem i239_76 : insAt 239 76 = some (.iload_n 2, 1, (0, 0, 0, 0), 0) := rfl
theorem s239_76 {c : Nat → List AV → SS → Option Out} {l0 l1 l3 : Option AV} {x : Int32} {L2 : List (Nat × AV)} {St : List AV} {S : SS} : ev c 239 76 [l0, l1, some (aI x), l3] L2 St S = ev c 239 77 [l0, l1, some (aI x), l3] L2 (aI x :: St) S := ev_go i239_76 rfl
theorem i239_77 : insAt 239 77 = some (.isub, 1, (0, 0, 0, 0), 0) := rfl
theorem s239_77 {c : Nat → List AV → SS → Option Out} {l0 l1 l2 l3 : Option AV} {x y : Int32} {L2 : List (Nat × AV)} {St : List AV} {S : SS} : ev c 239 77 [l0, l1, l2, l3] L2 (aI y :: aI x :: St) S = ev c 239 78 [l0, l1, l2, l3] L2 (aI (x - y) :: St) S := ev_go i239_77 rfl
theorem i239_78 : insAt 239 78 = some (.invokestatic 109, 3, (232, 1, 0, 0), 401) := rfl
theorem s239_78 {c : Nat → List AV → SS → Option Out} {l0 l1 l2 l3 : Option AV} {a0 : Int32} {L2 : List (Nat × AV)} {S : SS} : ev c 239 78 [l0, l1, l2, l3] L2 [aI a0] S = ck (c 232 [aI a0] S) (fun v S' => ev c 239 81 [l0, l1, l2, l3] L2 (v.toList ++ []) S') := ev_call i239_78 rfl
theorem i239_81 : insAt 239 81 = some (.aload_n 0, 1, (0, 0, 0, 0), 0) := rfl
theorem s239_81 {c : Nat → List AV → SS → Option Out} {l1 l2 l3 : Option AV} {o : OId} {L2 : List (Nat × AV)} {St : List AV} {S : SS} : ev c 239 81 [some (aR o), l1, l2, l3] L2 St S = ev c 239 82 [some (aR o), l1, l2, l3] L2 (aR o :: St) S := ev_go i239_81 rfl
theorem i239_82 : insAt 239 82 = some (.iload_n 1, 1, (0, 0, 0, 0), 0) := rfl
theorem s239_82 {c : Nat → List AV → SS → Option Out} {l0 l2 l3 : Option AV} {x : Int32} {L2 : List (Nat × AV)} {St : List AV} {S : SS} : ev c 239 82 [l0, some (aI x), l2, l3] L2 St S = ev c 239 83 [l0, some (aI x), l2, l3] L2 (aI x :: St) S := ev_go i239_82 rfl
theorem i239_83 : insAt 239 83 = some (.iload_n 3, 1, (0, 0, 0, 0), 0) := rfl
theorem s239_83 {c : Nat → List AV → SS → Option Out} {l0 l1 l2 : Option AV} {x : Int32} {L2 : List (Nat × AV)} {St : List AV} {S : SS} : ev c 239 83 [l0, l1, l2, some (aI x)] L2 St S = ev c 239 84 [l0, l1, l2, some (aI x)] L2 (aI x :: St) S := ev_go i239_83 rfl
theorem i239_84 : insAt 239 84 = some (.invokevirtual 112, 3, (240, 2, 2, 12), 407) := rfl
theorem s239_84 {c : Nat → List AV → SS → Option Out} {l0 l1 l2 l3 : Option AV} {t0 : AV} {a0 : Int32} {a1 : Int32} {j t : Nat} {L2 : List (Nat × AV)} {S : SS} : ev c 239 84 [l0, l1, l2, l3] L2 [aI a1, aI a0, aR (12, j, t), t0] S = ck (c 240 [aR (12, j, t), aI a0, aI a1] S) (fun v S' => ev c 239 87 [l0, l1, l2, l3] L2 (v.toList ++ [t0]) S') := ev_call i239_84 rfl
theorem i239_87 : insAt 239 87 = some (.if_icmp .ge 5, 3, (0, 0, 0, 0), 0) := rfl
theorem s239_87 {c : Nat → List AV → SS → Option Out} {l0 l1 l2 l3 : Option AV} {x y : Int32} {L2 : List (Nat × AV)} {St : List AV} {S : SS} : ev c 239 87 [l0, l1, l2, l3] L2 (aI y :: aI x :: St) S = if y ≤ x then ev c 239 92 [l0, l1, l2, l3] L2 St S else ev c 239 90 [l0, l1, l2, l3] L2 St S := ev_br i239_87 rfl
theorem i239_90 : insAt 239 90 = some (.iconst 0, 1, (0, 0, 0, 0), 0) := rfl
theorem s239_90 {c : Nat → List AV → SS → Option Out} {l0 l1 l2 l3 : Option AV} {L2 : List (Nat × AV)} {St : List AV} {S : SS} : ev c 239 90 [l0, l1, l2, l3] L2 St S = ev c 239 91 [l0, l1, l2, l3] L2 (aI 0 :: St) S := ev_go i239_90 rfl
theorem i239_91 : insAt 239 91 = some (.ireturn, 1, (0, 0, 0, 0), 0) := rfl
theorem s239_91 {c : Nat → List AV → SS → Option Out} {l0 l1 l2 l3 : Option AV} {x : Int32} {L2 : List (Nat × AV)} {S : SS} : ev c 239 91 [l0, l1, l2, l3] L2 [aI x] S = if x = 0 ∨ x = 1 then some (.inl (some (aI x)), S) else none := ev_rt i239_91 rfl
theorem i239_92 : insAt 239 92 = some (.iinc 3 1, 3, (0, 0, 0, 0), 0) := rfl
theorem s239_92 {c : Nat → List AV → SS → Option Out} {l0 l1 l2 : Option AV} {x : Int32} {L2 : List (Nat × AV)} {St : List AV} {S : SS} : ev c 239 92 [l0, l1, l2, some (aI x)] L2 St S = ev c 239 95 [l0, l1, l2, some (aI (x + 1))] (kil L2 3) St S := ev_go i239_92 rfl
theorem i239_95 : insAt 239 95 = some (.goto (-57), 3, (0, 0, 0, 0), 0) := rfl
theorem s239_95 {c : Nat → List AV → SS → Option Out} {l0 l1 l2 l3 : Option AV} {L2 : List (Nat × AV)} {St : List AV} {S : SS} : ev c 239 95 [l0, l1, l2, l3] L2 St S = ev c 239 38 [l0, l1, l2, l3] L2 St S := ev_go i239_95 rfl
theorem i239_98 : insAt 239 98 = some (.iconst 1, 1, (0, 0, 0, 0), 0) := rfl
theorem s239_98 {c : Nat → List AV → SS → Option Out} {l0 l1 l2 l3 : Option AV} {L2 : List (Nat × AV)} {St : List AV} {S : SS} : ev c 239 98 [l0, l1, l2, l3] L2 St S = ev c 239 99 [l0, l1, l2, l3] L2 (aI 1 :: St) S := ev_go i239_98 rfl
theorem i239_99 : insAt 239 99 = some (.ireturn, 1, (0, 0, 0, 0), 0) := rfl
theorem s239_99 {c : Nat → List AV → SS → Option Out} {l0 l1 l2 l3 : Option AV} {x : Int32} {L2 : List (Nat × AV)} {S : SS} : ev c 239 99 [l0, l1, l2, l3] L2 [aI x] S = if x = 0 ∨ x = 1 then some (.inl (some (aI x)), S) else none := ev_rt i239_99 rfl
theorem m239 {d : Nat} {o : OId} {a0 : Int32} {a1 : Int32} {S : SS} : evm (d + 1) 239 [aR o, aI a0, aI a1] S = ev (evm d) 239 0 [some (aR o), some (aI a0), some (aI a1), none] [] [] S := evm_s (n := 4) rfl (Nat.le_of_ble_eq_true rfl) rfl rfl
/-! FrequencyOfficeModel.separationOf(II)I -/
theorem i240_0 : insAt 240 0 = some (.aload_n 0, 1, (0, 0, 0, 0), 0) := rfl
theorem s240_0 {c : Nat → List AV → SS → Option Out} {l1 l2 : Option AV} {o : OId} {L2 : List (Nat × AV)} {St : List AV} {S : SS} : ev c 240 0 [some (aR o), l1, l2] L2 St S = ev c 240 1 [some (aR o), l1, l2] L2 (aR o :: St) S := ev_go i240_0 rfl
theorem i240_1 : insAt 240 1 = some (.iload_n 1, 1, (0, 0, 0, 0), 0) := rfl
theorem s240_1 {c : Nat → List AV → SS → Option Out} {l0 l2 : Option AV} {x : Int32} {L2 : List (Nat × AV)} {St : List AV} {S : SS} : ev c 240 1 [l0, some (aI x), l2] L2 St S = ev c 240 2 [l0, some (aI x), l2] L2 (aI x :: St) S := ev_go i240_1 rfl
theorem i240_2 : insAt 240 2 = some (.iload_n 2, 1, (0, 0, 0, 0), 0) := rfl
theorem s240_2 {c : Nat → List AV → SS → Option Out} {l0 l1 : Option AV} {x : Int32} {L2 : List (Nat × AV)} {St : List AV} {S : SS} : ev c 240 2 [l0, l1, some (aI x)] L2 St S = ev c 240 3 [l0, l1, some (aI x)] L2 (aI x :: St) S := ev_go i240_2 rfl
theorem i240_3 : insAt 240 3 = some (.invokevirtual 103, 3, (241, 2, 2, 12), 408) := rfl
theorem s240_3 {c : Nat → List AV → SS → Option Out} {l0 l1 l2 : Option AV} {a0 : Int32} {a1 : Int32} {j t : Nat} {L2 : List (Nat × AV)} {S : SS} : ev c 240 3 [l0, l1, l2] L2 [aI a1, aI a0, aR (12, j, t)] S = ck (c 241 [aR (12, j, t), aI a0, aI a1] S) (fun v S' => ev c 240 6 [l0, l1, l2] L2 (v.toList ++ []) S') := ev_call i240_3 rfl
theorem i240_6 : insAt 240 6 = some (.aload_n 0, 1, (0, 0, 0, 0), 0) := rfl
theorem s240_6 {c : Nat → List AV → SS → Option Out} {l1 l2 : Option AV} {o : OId} {L2 : List (Nat × AV)} {St : List AV} {S : SS} : ev c 240 6 [some (aR o), l1, l2] L2 St S = ev c 240 7 [some (aR o), l1, l2] L2 (aR o :: St) S := ev_go i240_6 rfl
theorem i240_7 : insAt 240 7 = some (.iload_n 1, 1, (0, 0, 0, 0), 0) := rfl
theorem s240_7 {c : Nat → List AV → SS → Option Out} {l0 l2 : Option AV} {x : Int32} {L2 : List (Nat × AV)} {St : List AV} {S : SS} : ev c 240 7 [l0, some (aI x), l2] L2 St S = ev c 240 8 [l0, some (aI x), l2] L2 (aI x :: St) S := ev_go i240_7 rfl
theorem i240_8 : insAt 240 8 = some (.iload_n 2, 1, (0, 0, 0, 0), 0) := rfl
theorem s240_8 {c : Nat → List AV → SS → Option Out} {l0 l1 : Option AV} {x : Int32} {L2 : List (Nat × AV)} {St : List AV} {S : SS} : ev c 240 8 [l0, l1, some (aI x)] L2 St S = ev c 240 9 [l0, l1, some (aI x)] L2 (aI x :: St) S := ev_go i240_8 rfl
theorem i240_9 : insAt 240 9 = some (.invokevirtual 106, 3, (237, 2, 2, 12), 404) := rfl
theorem s240_9 {c : Nat → List AV → SS → Option Out} {l0 l1 l2 : Option AV} {t0 : AV} {a0 : Int32} {a1 : Int32} {j t : Nat} {L2 : List (Nat × AV)} {S : SS} : ev c 240 9 [l0, l1, l2] L2 [aI a1, aI a0, aR (12, j, t), t0] S = ck (c 237 [aR (12, j, t), aI a0, aI a1] S) (fun v S' => ev c 240 12 [l0, l1, l2] L2 (v.toList ++ [t0]) S') := ev_call i240_9 rfl
theorem i240_12 : insAt 240 12 = some (.iadd, 1, (0, 0, 0, 0), 0) := rfl
theorem s240_12 {c : Nat → List AV → SS → Option Out} {l0 l1 l2 : Option AV} {x y : Int32} {L2 : List (Nat × AV)} {St : List AV} {S : SS} : ev c 240 12 [l0, l1, l2] L2 (aI y :: aI x :: St) S = ev c 240 13 [l0, l1, l2] L2 (aI (x + y) :: St) S := ev_go i240_12 rfl
theorem i240_13 : insAt 240 13 = some (.ireturn, 1, (0, 0, 0, 0), 0) := rfl
theorem s240_13 {c : Nat → List AV → SS → Option Out} {l0 l1 l2 : Option AV} {x : Int32} {L2 : List (Nat × AV)} {S : SS} : ev c 240 13 [l0, l1, l2] L2 [aI x] S = some (.inl (some (aI x)), S) := ev_end i240_13 rfl
theorem m240 {d : Nat} {o : OId} {a0 : Int32} {a1 : Int32} {S : SS} : evm (d + 1) 240 [aR o, aI a0, aI a1] S = ev (evm d) 240 0 [some (aR o), some (aI a0), some (aI a1)] [] [] S := evm_s (n := 3) rfl (Nat.le_of_ble_eq_true rfl) rfl rfl
/-! FrequencyOfficeModel.baseOf(II)I -/
theorem i241_0 : insAt 241 0 = some (.aload_n 0, 1, (0, 0, 0, 0), 0) := rfl
theorem s241_0 {c : Nat → List AV → SS → Option Out} {l1 l2 : Option AV} {o : OId} {L2 : List (Nat × AV)} {St : List AV} {S : SS} : ev c 241 0 [some (aR o), l1, l2] L2 St S = ev c 241 1 [some (aR o), l1, l2] L2 (aR o :: St) S := ev_go i241_0 rfl
theorem i241_1 : insAt 241 1 = some (.aload_n 0, 1, (0, 0, 0, 0), 0) := rfl
theorem s241_1 {c : Nat → List AV → SS → Option Out} {l1 l2 : Option AV} {o : OId} {L2 : List (Nat × AV)} {St : List AV} {S : SS} : ev c 241 1 [some (aR o), l1, l2] L2 St S = ev c 241 2 [some (aR o), l1, l2] L2 (aR o :: St) S := ev_go i241_1 rfl
theorem i241_2 : insAt 241 2 = some (.iload_n 1, 1, (0, 0, 0, 0), 0) := rfl
theorem s241_2 {c : Nat → List AV → SS → Option Out} {l0 l2 : Option AV} {x : Int32} {L2 : List (Nat × AV)} {St : List AV} {S : SS} : ev c 241 2 [l0, some (aI x), l2] L2 St S = ev c 241 3 [l0, some (aI x), l2] L2 (aI x :: St) S := ev_go i241_2 rfl
theorem i241_3 : insAt 241 3 = some (.iconst 1, 1, (0, 0, 0, 0), 0) := rfl
theorem s241_3 {c : Nat → List AV → SS → Option Out} {l0 l1 l2 : Option AV} {L2 : List (Nat × AV)} {St : List AV} {S : SS} : ev c 241 3 [l0, l1, l2] L2 St S = ev c 241 4 [l0, l1, l2] L2 (aI 1 :: St) S := ev_go i241_3 rfl
theorem i241_4 : insAt 241 4 = some (.invokevirtual 75, 3, (231, 2, 2, 12), 396) := rfl
theorem s241_4 {c : Nat → List AV → SS → Option Out} {l0 l1 l2 : Option AV} {t0 : AV} {a0 : Int32} {a1 : Int32} {j t : Nat} {L2 : List (Nat × AV)} {S : SS} : ev c 241 4 [l0, l1, l2] L2 [aI a1, aI a0, aR (12, j, t), t0] S = ck (c 231 [aR (12, j, t), aI a0, aI a1] S) (fun v S' => ev c 241 7 [l0, l1, l2] L2 (v.toList ++ [t0]) S') := ev_call i241_4 rfl
theorem i241_7 : insAt 241 7 = some (.aload_n 0, 1, (0, 0, 0, 0), 0) := rfl
theorem s241_7 {c : Nat → List AV → SS → Option Out} {l1 l2 : Option AV} {o : OId} {L2 : List (Nat × AV)} {St : List AV} {S : SS} : ev c 241 7 [some (aR o), l1, l2] L2 St S = ev c 241 8 [some (aR o), l1, l2] L2 (aR o :: St) S := ev_go i241_7 rfl
theorem i241_8 : insAt 241 8 = some (.iload_n 1, 1, (0, 0, 0, 0), 0) := rfl
theorem s241_8 {c : Nat → List AV → SS → Option Out} {l0 l2 : Option AV} {x : Int32} {L2 : List (Nat × AV)} {St : List AV} {S : SS} : ev c 241 8 [l0, some (aI x), l2] L2 St S = ev c 241 9 [l0, some (aI x), l2] L2 (aI x :: St) S := ev_go i241_8 rfl
theorem i241_9 : insAt 241 9 = some (.iconst 2, 1, (0, 0, 0, 0), 0) := rfl
theorem s241_9 {c : Nat → List AV → SS → Option Out} {l0 l1 l2 : Option AV} {L2 : List (Nat × AV)} {St : List AV} {S : SS} : ev c 241 9 [l0, l1, l2] L2 St S = ev c 241 10 [l0, l1, l2] L2 (aI 2 :: St) S := ev_go i241_9 rfl
theorem i241_10 : insAt 241 10 = some (.invokevirtual 75, 3, (231, 2, 2, 12), 396) := rfl
theorem s241_10 {c : Nat → List AV → SS → Option Out} {l0 l1 l2 : Option AV} {t0 t1 : AV} {a0 : Int32} {a1 : Int32} {j t : Nat} {L2 : List (Nat × AV)} {S : SS} : ev c 241 10 [l0, l1, l2] L2 [aI a1, aI a0, aR (12, j, t), t0, t1] S = ck (c 231 [aR (12, j, t), aI a0, aI a1] S) (fun v S' => ev c 241 13 [l0, l1, l2] L2 (v.toList ++ [t0, t1]) S') := ev_call i241_10 rfl
theorem i241_13 : insAt 241 13 = some (.iload_n 2, 1, (0, 0, 0, 0), 0) := rfl
theorem s241_13 {c : Nat → List AV → SS → Option Out} {l0 l1 : Option AV} {x : Int32} {L2 : List (Nat × AV)} {St : List AV} {S : SS} : ev c 241 13 [l0, l1, some (aI x)] L2 St S = ev c 241 14 [l0, l1, some (aI x)] L2 (aI x :: St) S := ev_go i241_13 rfl
theorem i241_14 : insAt 241 14 = some (.invokevirtual 100, 3, (234, 3, 2, 12), 403) := rfl
theorem s241_14 {c : Nat → List AV → SS → Option Out} {l0 l1 l2 : Option AV} {a0 : Int32} {a1 : Int32} {a2 : Int32} {j t : Nat} {L2 : List (Nat × AV)} {S : SS} : ev c 241 14 [l0, l1, l2] L2 [aI a2, aI a1, aI a0, aR (12, j, t)] S = ck (c 234 [aR (12, j, t), aI a0, aI a1, aI a2] S) (fun v S' => ev c 241 17 [l0, l1, l2] L2 (v.toList ++ []) S') := ev_call i241_14 rfl
theorem i241_17 : insAt 241 17 = some (.ireturn, 1, (0, 0, 0, 0), 0) := rfl
theorem s241_17 {c : Nat → List AV → SS → Option Out} {l0 l1 l2 : Option AV} {x : Int32} {L2 : List (Nat × AV)} {S : SS} : ev c 241 17 [l0, l1, l2] L2 [aI x] S = some (.inl (some (aI x)), S) := ev_end i241_17 rfl
theorem m241 {d : Nat} {o : OId} {a0 : Int32} {a1 : Int32} {S : SS} : evm (d + 1) 241 [aR o, aI a0, aI a1] S = ev (evm d) 241 0 [some (aR o), some (aI a0), some (aI a1)] [] [] S := evm_s (n := 3) rfl (Nat.le_of_ble_eq_true rfl) rfl rfl
/-! FrequencyOfficeModel.lays(III)V -/
theorem i242_0 : insAt 242 0 = some (.aload_n 0, 1, (0, 0, 0, 0), 0) := rfl
theorem s242_0 {c : Nat → List AV → SS → Option Out} {l1 l2 l3 : Option AV} {o : OId} {L2 : List (Nat × AV)} {St : List AV} {S : SS} : ev c 242 0 [some (aR o), l1, l2, l3] L2 St S = ev c 242 1 [some (aR o), l1, l2, l3] L2 (aR o :: St) S := ev_go i242_0 rfl
theorem i242_1 : insAt 242 1 = some (.getfield 7, 3, (12, 0, 0, 0), 364) := rfl
theorem s242_1 {c : Nat → List AV → SS → Option Out} {l0 l1 l2 l3 : Option AV} {j t : Nat} {L2 : List (Nat × AV)} {St : List AV} {S : SS} : ev c 242 1 [l0, l1, l2, l3] L2 (aR (12, j, t) :: St) S = ev c 242 4 [l0, l1, l2, l3] L2 (S.2.2.1 (12, j, t) 0 :: St) S := ev_go i242_1 rfl
theorem i242_4 : insAt 242 4 = some (.bipush 15, 2, (0, 0, 0, 0), 0) := rfl
theorem s242_4 {c : Nat → List AV → SS → Option Out} {l0 l1 l2 l3 : Option AV} {L2 : List (Nat × AV)} {St : List AV} {S : SS} : ev c 242 4 [l0, l1, l2, l3] L2 St S = ev c 242 6 [l0, l1, l2, l3] L2 (aI 15 :: St) S := ev_go i242_4 rfl
theorem i242_6 : insAt 242 6 = some (.bipush 6, 2, (0, 0, 0, 0), 0) := rfl
theorem s242_6 {c : Nat → List AV → SS → Option Out} {l0 l1 l2 l3 : Option AV} {L2 : List (Nat × AV)} {St : List AV} {S : SS} : ev c 242 6 [l0, l1, l2, l3] L2 St S = ev c 242 8 [l0, l1, l2, l3] L2 (aI 6 :: St) S := ev_go i242_6 rfl
theorem i242_8 : insAt 242 8 = some (.iload_n 1, 1, (0, 0, 0, 0), 0) := rfl
theorem s242_8 {c : Nat → List AV → SS → Option Out} {l0 l2 l3 : Option AV} {x : Int32} {L2 : List (Nat × AV)} {St : List AV} {S : SS} : ev c 242 8 [l0, some (aI x), l2, l3] L2 St S = ev c 242 9 [l0, some (aI x), l2, l3] L2 (aI x :: St) S := ev_go i242_8 rfl
theorem i242_9 : insAt 242 9 = some (.imul, 1, (0, 0, 0, 0), 0) := rfl
theorem s242_9 {c : Nat → List AV → SS → Option Out} {l0 l1 l2 l3 : Option AV} {x y : Int32} {L2 : List (Nat × AV)} {St : List AV} {S : SS} : ev c 242 9 [l0, l1, l2, l3] L2 (aI y :: aI x :: St) S = ev c 242 10 [l0, l1, l2, l3] L2 (aI (x * y) :: St) S := ev_go i242_9 rfl
theorem i242_10 : insAt 242 10 = some (.iadd, 1, (0, 0, 0, 0), 0) := rfl
theorem s242_10 {c : Nat → List AV → SS → Option Out} {l0 l1 l2 l3 : Option AV} {x y : Int32} {L2 : List (Nat × AV)} {St : List AV} {S : SS} : ev c 242 10 [l0, l1, l2, l3] L2 (aI y :: aI x :: St) S = ev c 242 11 [l0, l1, l2, l3] L2 (aI (x + y) :: St) S := ev_go i242_10 rfl
theorem i242_11 : insAt 242 11 = some (.iload_n 2, 1, (0, 0, 0, 0), 0) := rfl
theorem s242_11 {c : Nat → List AV → SS → Option Out} {l0 l1 l3 : Option AV} {x : Int32} {L2 : List (Nat × AV)} {St : List AV} {S : SS} : ev c 242 11 [l0, l1, some (aI x), l3] L2 St S = ev c 242 12 [l0, l1, some (aI x), l3] L2 (aI x :: St) S := ev_go i242_11 rfl
theorem i242_12 : insAt 242 12 = some (.iadd, 1, (0, 0, 0, 0), 0) := rfl
theorem s242_12 {c : Nat → List AV → SS → Option Out} {l0 l1 l2 l3 : Option AV} {x y : Int32} {L2 : List (Nat × AV)} {St : List AV} {S : SS} : ev c 242 12 [l0, l1, l2, l3] L2 (aI y :: aI x :: St) S = ev c 242 13 [l0, l1, l2, l3] L2 (aI (x + y) :: St) S := ev_go i242_12 rfl
theorem i242_13 : insAt 242 13 = some (.iload_n 3, 1, (0, 0, 0, 0), 0) := rfl
theorem s242_13 {c : Nat → List AV → SS → Option Out} {l0 l1 l2 : Option AV} {x : Int32} {L2 : List (Nat × AV)} {St : List AV} {S : SS} : ev c 242 13 [l0, l1, l2, some (aI x)] L2 St S = ev c 242 14 [l0, l1, l2, some (aI x)] L2 (aI x :: St) S := ev_go i242_13 rfl
theorem i242_14 : insAt 242 14 = some (.iastore, 1, (0, 0, 0, 0), 0) := rfl
theorem s242_14 {c : Nat → List AV → SS → Option Out} {l0 l1 l2 l3 : Option AV} {x i : Int32} {o : OId} {L2 : List (Nat × AV)} {St : List AV} {S : SS} : ev c 242 14 [l0, l1, l2, l3] L2 (aI x :: aI i :: aR o :: St) S = kIw o i (ev c 242 15 [l0, l1, l2, l3] L2 St (setI S.1 o i.toNatClampNeg x, S.2)) := ev_iastore i242_14
theorem i242_15 : insAt 242 15 = some (.return_, 1, (0, 0, 0, 0), 0) := rfl
theorem s242_15 {c : Nat → List AV → SS → Option Out} {l0 l1 l2 l3 : Option AV} {L2 : List (Nat × AV)} {S : SS} : ev c 242 15 [l0, l1, l2, l3] L2 [] S = some (.inl none, S) := ev_end i242_15 rfl
theorem m242 {d : Nat} {o : OId} {a0 : Int32} {a1 : Int32} {a2 : Int32} {S : SS} : evm (d + 1) 242 [aR o, aI a0, aI a1, aI a2] S = ev (evm d) 242 0 [some (aR o), some (aI a0), some (aI a1), some (aI a2)] [] [] S := evm_s (n := 4) rfl (Nat.le_of_ble_eq_true rfl) rfl rfl
/-! FrequencyOfficeModel.moves(I)V -/
theorem i243_0 : insAt 243 0 = some (.aload_n 0, 1, (0, 0, 0, 0), 0) := rfl
theorem s243_0 {c : Nat → List AV → SS → Option Out} {l1 l2 : Option AV} {o : OId} {L2 : List (Nat × AV)} {St : List AV} {S : SS} : ev c 243 0 [some (aR o), l1, l2] L2 St S = ev c 243 1 [some (aR o), l1, l2] L2 (aR o :: St) S := ev_go i243_0 rfl
theorem i243_1 : insAt 243 1 = some (.getfield 7, 3, (12, 0, 0, 0), 364) := rfl
theorem s243_1 {c : Nat → List AV → SS → Option Out} {l0 l1 l2 : Option AV} {j t : Nat} {L2 : List (Nat × AV)} {St : List AV} {S : SS} : ev c 243 1 [l0, l1, l2] L2 (aR (12, j, t) :: St) S = ev c 243 4 [l0, l1, l2] L2 (S.2.2.1 (12, j, t) 0 :: St) S := ev_go i243_1 rfl
theorem i243_4 : insAt 243 4 = some (.bipush 8, 2, (0, 0, 0, 0), 0) := rfl
theorem s243_4 {c : Nat → List AV → SS → Option Out} {l0 l1 l2 : Option AV} {L2 : List (Nat × AV)} {St : List AV} {S : SS} : ev c 243 4 [l0, l1, l2] L2 St S = ev c 243 6 [l0, l1, l2] L2 (aI 8 :: St) S := ev_go i243_4 rfl
theorem i243_6 : insAt 243 6 = some (.iload_n 1, 1, (0, 0, 0, 0), 0) := rfl
theorem s243_6 {c : Nat → List AV → SS → Option Out} {l0 l2 : Option AV} {x : Int32} {L2 : List (Nat × AV)} {St : List AV} {S : SS} : ev c 243 6 [l0, some (aI x), l2] L2 St S = ev c 243 7 [l0, some (aI x), l2] L2 (aI x :: St) S := ev_go i243_6 rfl
theorem i243_7 : insAt 243 7 = some (.iastore, 1, (0, 0, 0, 0), 0) := rfl
theorem s243_7 {c : Nat → List AV → SS → Option Out} {l0 l1 l2 : Option AV} {x i : Int32} {o : OId} {L2 : List (Nat × AV)} {St : List AV} {S : SS} : ev c 243 7 [l0, l1, l2] L2 (aI x :: aI i :: aR o :: St) S = kIw o i (ev c 243 8 [l0, l1, l2] L2 St (setI S.1 o i.toNatClampNeg x, S.2)) := ev_iastore i243_7
theorem i243_8 : insAt 243 8 = some (.iconst 0, 1, (0, 0, 0, 0), 0) := rfl
theorem s243_8 {c : Nat → List AV → SS → Option Out} {l0 l1 l2 : Option AV} {L2 : List (Nat × AV)} {St : List AV} {S : SS} : ev c 243 8 [l0, l1, l2] L2 St S = ev c 243 9 [l0, l1, l2] L2 (aI 0 :: St) S := ev_go i243_8 rfl
theorem i243_9 : insAt 243 9 = some (.istore_n 2, 1, (0, 0, 0, 0), 0) := rfl
theorem s243_9 {c : Nat → List AV → SS → Option Out} {l0 l1 l2 : Option AV} {x : Int32} {L2 : List (Nat × AV)} {St : List AV} {S : SS} : ev c 243 9 [l0, l1, l2] L2 (aI x :: St) S = ev c 243 10 [l0, l1, some (aI x)] (kil L2 2) St S := ev_go i243_9 rfl
theorem i243_10 : insAt 243 10 = some (.iload_n 2, 1, (0, 0, 0, 0), 0) := rfl
theorem s243_10 {c : Nat → List AV → SS → Option Out} {l0 l1 : Option AV} {x : Int32} {L2 : List (Nat × AV)} {St : List AV} {S : SS} : ev c 243 10 [l0, l1, some (aI x)] L2 St S = ev c 243 11 [l0, l1, some (aI x)] L2 (aI x :: St) S := ev_go i243_10 rfl
theorem i243_11 : insAt 243 11 = some (.iload_n 1, 1, (0, 0, 0, 0), 0) := rfl
theorem s243_11 {c : Nat → List AV → SS → Option Out} {l0 l2 : Option AV} {x : Int32} {L2 : List (Nat × AV)} {St : List AV} {S : SS} : ev c 243 11 [l0, some (aI x), l2] L2 St S = ev c 243 12 [l0, some (aI x), l2] L2 (aI x :: St) S := ev_go i243_11 rfl
theorem i243_12 : insAt 243 12 = some (.if_icmp .ge 91, 3, (0, 0, 0, 0), 0) := rfl
theorem s243_12 {c : Nat → List AV → SS → Option Out} {l0 l1 l2 : Option AV} {x y : Int32} {L2 : List (Nat × AV)} {St : List AV} {S : SS} : ev c 243 12 [l0, l1, l2] L2 (aI y :: aI x :: St) S = if y ≤ x then ev c 243 103 [l0, l1, l2] L2 St S else ev c 243 15 [l0, l1, l2] L2 St S := ev_br i243_12 rfl
theorem i243_15 : insAt 243 15 = some (.aload_n 0, 1, (0, 0, 0, 0), 0) := rfl
theorem s243_15 {c : Nat → List AV → SS → Option Out} {l1 l2 : Option AV} {o : OId} {L2 : List (Nat × AV)} {St : List AV} {S : SS} : ev c 243 15 [some (aR o), l1, l2] L2 St S = ev c 243 16 [some (aR o), l1, l2] L2 (aR o :: St) S := ev_go i243_15 rfl
theorem i243_16 : insAt 243 16 = some (.getfield 7, 3, (12, 0, 0, 0), 364) := rfl
theorem s243_16 {c : Nat → List AV → SS → Option Out} {l0 l1 l2 : Option AV} {j t : Nat} {L2 : List (Nat × AV)} {St : List AV} {S : SS} : ev c 243 16 [l0, l1, l2] L2 (aR (12, j, t) :: St) S = ev c 243 19 [l0, l1, l2] L2 (S.2.2.1 (12, j, t) 0 :: St) S := ev_go i243_16 rfl
theorem i243_19 : insAt 243 19 = some (.bipush 9, 2, (0, 0, 0, 0), 0) := rfl
theorem s243_19 {c : Nat → List AV → SS → Option Out} {l0 l1 l2 : Option AV} {L2 : List (Nat × AV)} {St : List AV} {S : SS} : ev c 243 19 [l0, l1, l2] L2 St S = ev c 243 21 [l0, l1, l2] L2 (aI 9 :: St) S := ev_go i243_19 rfl
theorem i243_21 : insAt 243 21 = some (.iconst 3, 1, (0, 0, 0, 0), 0) := rfl
theorem s243_21 {c : Nat → List AV → SS → Option Out} {l0 l1 l2 : Option AV} {L2 : List (Nat × AV)} {St : List AV} {S : SS} : ev c 243 21 [l0, l1, l2] L2 St S = ev c 243 22 [l0, l1, l2] L2 (aI 3 :: St) S := ev_go i243_21 rfl
theorem i243_22 : insAt 243 22 = some (.iload_n 2, 1, (0, 0, 0, 0), 0) := rfl
theorem s243_22 {c : Nat → List AV → SS → Option Out} {l0 l1 : Option AV} {x : Int32} {L2 : List (Nat × AV)} {St : List AV} {S : SS} : ev c 243 22 [l0, l1, some (aI x)] L2 St S = ev c 243 23 [l0, l1, some (aI x)] L2 (aI x :: St) S := ev_go i243_22 rfl
theorem i243_23 : insAt 243 23 = some (.imul, 1, (0, 0, 0, 0), 0) := rfl
theorem s243_23 {c : Nat → List AV → SS → Option Out} {l0 l1 l2 : Option AV} {x y : Int32} {L2 : List (Nat × AV)} {St : List AV} {S : SS} : ev c 243 23 [l0, l1, l2] L2 (aI y :: aI x :: St) S = ev c 243 24 [l0, l1, l2] L2 (aI (x * y) :: St) S := ev_go i243_23 rfl
theorem i243_24 : insAt 243 24 = some (.iadd, 1, (0, 0, 0, 0), 0) := rfl
theorem s243_24 {c : Nat → List AV → SS → Option Out} {l0 l1 l2 : Option AV} {x y : Int32} {L2 : List (Nat × AV)} {St : List AV} {S : SS} : ev c 243 24 [l0, l1, l2] L2 (aI y :: aI x :: St) S = ev c 243 25 [l0, l1, l2] L2 (aI (x + y) :: St) S := ev_go i243_24 rfl
theorem i243_25 : insAt 243 25 = some (.aload_n 0, 1, (0, 0, 0, 0), 0) := rfl
theorem s243_25 {c : Nat → List AV → SS → Option Out} {l1 l2 : Option AV} {o : OId} {L2 : List (Nat × AV)} {St : List AV} {S : SS} : ev c 243 25 [some (aR o), l1, l2] L2 St S = ev c 243 26 [some (aR o), l1, l2] L2 (aR o :: St) S := ev_go i243_25 rfl
theorem i243_26 : insAt 243 26 = some (.aload_n 0, 1, (0, 0, 0, 0), 0) := rfl
theorem s243_26 {c : Nat → List AV → SS → Option Out} {l1 l2 : Option AV} {o : OId} {L2 : List (Nat × AV)} {St : List AV} {S : SS} : ev c 243 26 [some (aR o), l1, l2] L2 St S = ev c 243 27 [some (aR o), l1, l2] L2 (aR o :: St) S := ev_go i243_26 rfl
theorem i243_27 : insAt 243 27 = some (.getfield 22, 3, (12, 4, 0, 0), 368) := rfl
theorem s243_27 {c : Nat → List AV → SS → Option Out} {l0 l1 l2 : Option AV} {j t : Nat} {L2 : List (Nat × AV)} {St : List AV} {S : SS} : ev c 243 27 [l0, l1, l2] L2 (aR (12, j, t) :: St) S = ev c 243 30 [l0, l1, l2] L2 (S.2.2.1 (12, j, t) 4 :: St) S := ev_go i243_27 rfl
theorem i243_30 : insAt 243 30 = some (.iload_n 2, 1, (0, 0, 0, 0), 0) := rfl
theorem s243_30 {c : Nat → List AV → SS → Option Out} {l0 l1 : Option AV} {x : Int32} {L2 : List (Nat × AV)} {St : List AV} {S : SS} : ev c 243 30 [l0, l1, some (aI x)] L2 St S = ev c 243 31 [l0, l1, some (aI x)] L2 (aI x :: St) S := ev_go i243_30 rfl
theorem i243_31 : insAt 243 31 = some (.iaload, 1, (0, 0, 0, 0), 0) := rfl
theorem s243_31 {c : Nat → List AV → SS → Option Out} {l0 l1 l2 : Option AV} {i : Int32} {o : OId} {L2 : List (Nat × AV)} {St : List AV} {S : SS} : ev c 243 31 [l0, l1, l2] L2 (aI i :: aR o :: St) S = kI o i (ev c 243 32 [l0, l1, l2] L2 (aI (agI S o i.toNatClampNeg) :: St) S) := ev_iaload i243_31
theorem i243_32 : insAt 243 32 = some (.iconst 0, 1, (0, 0, 0, 0), 0) := rfl
theorem s243_32 {c : Nat → List AV → SS → Option Out} {l0 l1 l2 : Option AV} {L2 : List (Nat × AV)} {St : List AV} {S : SS} : ev c 243 32 [l0, l1, l2] L2 St S = ev c 243 33 [l0, l1, l2] L2 (aI 0 :: St) S := ev_go i243_32 rfl
theorem i243_33 : insAt 243 33 = some (.invokevirtual 75, 3, (231, 2, 2, 12), 396) := rfl
theorem s243_33 {c : Nat → List AV → SS → Option Out} {l0 l1 l2 : Option AV} {t0 t1 : AV} {a0 : Int32} {a1 : Int32} {j t : Nat} {L2 : List (Nat × AV)} {S : SS} : ev c 243 33 [l0, l1, l2] L2 [aI a1, aI a0, aR (12, j, t), t0, t1] S = ck (c 231 [aR (12, j, t), aI a0, aI a1] S) (fun v S' => ev c 243 36 [l0, l1, l2] L2 (v.toList ++ [t0, t1]) S') := ev_call i243_33 rfl
theorem i243_36 : insAt 243 36 = some (.iastore, 1, (0, 0, 0, 0), 0) := rfl
theorem s243_36 {c : Nat → List AV → SS → Option Out} {l0 l1 l2 : Option AV} {x i : Int32} {o : OId} {L2 : List (Nat × AV)} {St : List AV} {S : SS} : ev c 243 36 [l0, l1, l2] L2 (aI x :: aI i :: aR o :: St) S = kIw o i (ev c 243 37 [l0, l1, l2] L2 St (setI S.1 o i.toNatClampNeg x, S.2)) := ev_iastore i243_36
theorem i243_37 : insAt 243 37 = some (.aload_n 0, 1, (0, 0, 0, 0), 0) := rfl
theorem s243_37 {c : Nat → List AV → SS → Option Out} {l1 l2 : Option AV} {o : OId} {L2 : List (Nat × AV)} {St : List AV} {S : SS} : ev c 243 37 [some (aR o), l1, l2] L2 St S = ev c 243 38 [some (aR o), l1, l2] L2 (aR o :: St) S := ev_go i243_37 rfl
theorem i243_38 : insAt 243 38 = some (.getfield 7, 3, (12, 0, 0, 0), 364) := rfl
theorem s243_38 {c : Nat → List AV → SS → Option Out} {l0 l1 l2 : Option AV} {j t : Nat} {L2 : List (Nat × AV)} {St : List AV} {S : SS} : ev c 243 38 [l0, l1, l2] L2 (aR (12, j, t) :: St) S = ev c 243 41 [l0, l1, l2] L2 (S.2.2.1 (12, j, t) 0 :: St) S := ev_go i243_38 rfl
theorem i243_41 : insAt 243 41 = some (.bipush 9, 2, (0, 0, 0, 0), 0) := rfl
theorem s243_41 {c : Nat → List AV → SS → Option Out} {l0 l1 l2 : Option AV} {L2 : List (Nat × AV)} {St : List AV} {S : SS} : ev c 243 41 [l0, l1, l2] L2 St S = ev c 243 43 [l0, l1, l2] L2 (aI 9 :: St) S := ev_go i243_41 rfl
theorem i243_43 : insAt 243 43 = some (.iconst 3, 1, (0, 0, 0, 0), 0) := rfl
theorem s243_43 {c : Nat → List AV → SS → Option Out} {l0 l1 l2 : Option AV} {L2 : List (Nat × AV)} {St : List AV} {S : SS} : ev c 243 43 [l0, l1, l2] L2 St S = ev c 243 44 [l0, l1, l2] L2 (aI 3 :: St) S := ev_go i243_43 rfl
theorem i243_44 : insAt 243 44 = some (.iload_n 2, 1, (0, 0, 0, 0), 0) := rfl
theorem s243_44 {c : Nat → List AV → SS → Option Out} {l0 l1 : Option AV} {x : Int32} {L2 : List (Nat × AV)} {St : List AV} {S : SS} : ev c 243 44 [l0, l1, some (aI x)] L2 St S = ev c 243 45 [l0, l1, some (aI x)] L2 (aI x :: St) S := ev_go i243_44 rfl
theorem i243_45 : insAt 243 45 = some (.imul, 1, (0, 0, 0, 0), 0) := rfl
theorem s243_45 {c : Nat → List AV → SS → Option Out} {l0 l1 l2 : Option AV} {x y : Int32} {L2 : List (Nat × AV)} {St : List AV} {S : SS} : ev c 243 45 [l0, l1, l2] L2 (aI y :: aI x :: St) S = ev c 243 46 [l0, l1, l2] L2 (aI (x * y) :: St) S := ev_go i243_45 rfl
theorem i243_46 : insAt 243 46 = some (.iadd, 1, (0, 0, 0, 0), 0) := rfl
theorem s243_46 {c : Nat → List AV → SS → Option Out} {l0 l1 l2 : Option AV} {x y : Int32} {L2 : List (Nat × AV)} {St : List AV} {S : SS} : ev c 243 46 [l0, l1, l2] L2 (aI y :: aI x :: St) S = ev c 243 47 [l0, l1, l2] L2 (aI (x + y) :: St) S := ev_go i243_46 rfl
theorem i243_47 : insAt 243 47 = some (.iconst 1, 1, (0, 0, 0, 0), 0) := rfl
theorem s243_47 {c : Nat → List AV → SS → Option Out} {l0 l1 l2 : Option AV} {L2 : List (Nat × AV)} {St : List AV} {S : SS} : ev c 243 47 [l0, l1, l2] L2 St S = ev c 243 48 [l0, l1, l2] L2 (aI 1 :: St) S := ev_go i243_47 rfl
theorem i243_48 : insAt 243 48 = some (.iadd, 1, (0, 0, 0, 0), 0) := rfl
theorem s243_48 {c : Nat → List AV → SS → Option Out} {l0 l1 l2 : Option AV} {x y : Int32} {L2 : List (Nat × AV)} {St : List AV} {S : SS} : ev c 243 48 [l0, l1, l2] L2 (aI y :: aI x :: St) S = ev c 243 49 [l0, l1, l2] L2 (aI (x + y) :: St) S := ev_go i243_48 rfl
theorem i243_49 : insAt 243 49 = some (.aload_n 0, 1, (0, 0, 0, 0), 0) := rfl
theorem s243_49 {c : Nat → List AV → SS → Option Out} {l1 l2 : Option AV} {o : OId} {L2 : List (Nat × AV)} {St : List AV} {S : SS} : ev c 243 49 [some (aR o), l1, l2] L2 St S = ev c 243 50 [some (aR o), l1, l2] L2 (aR o :: St) S := ev_go i243_49 rfl
theorem i243_50 : insAt 243 50 = some (.aload_n 0, 1, (0, 0, 0, 0), 0) := rfl
theorem s243_50 {c : Nat → List AV → SS → Option Out} {l1 l2 : Option AV} {o : OId} {L2 : List (Nat × AV)} {St : List AV} {S : SS} : ev c 243 50 [some (aR o), l1, l2] L2 St S = ev c 243 51 [some (aR o), l1, l2] L2 (aR o :: St) S := ev_go i243_50 rfl
theorem i243_51 : insAt 243 51 = some (.getfield 22, 3, (12, 4, 0, 0), 368) := rfl
theorem s243_51 {c : Nat → List AV → SS → Option Out} {l0 l1 l2 : Option AV} {j t : Nat} {L2 : List (Nat × AV)} {St : List AV} {S : SS} : ev c 243 51 [l0, l1, l2] L2 (aR (12, j, t) :: St) S = ev c 243 54 [l0, l1, l2] L2 (S.2.2.1 (12, j, t) 4 :: St) S := ev_go i243_51 rfl
theorem i243_54 : insAt 243 54 = some (.iload_n 2, 1, (0, 0, 0, 0), 0) := rfl
theorem s243_54 {c : Nat → List AV → SS → Option Out} {l0 l1 : Option AV} {x : Int32} {L2 : List (Nat × AV)} {St : List AV} {S : SS} : ev c 243 54 [l0, l1, some (aI x)] L2 St S = ev c 243 55 [l0, l1, some (aI x)] L2 (aI x :: St) S := ev_go i243_54 rfl
theorem i243_55 : insAt 243 55 = some (.iaload, 1, (0, 0, 0, 0), 0) := rfl
theorem s243_55 {c : Nat → List AV → SS → Option Out} {l0 l1 l2 : Option AV} {i : Int32} {o : OId} {L2 : List (Nat × AV)} {St : List AV} {S : SS} : ev c 243 55 [l0, l1, l2] L2 (aI i :: aR o :: St) S = kI o i (ev c 243 56 [l0, l1, l2] L2 (aI (agI S o i.toNatClampNeg) :: St) S) := ev_iaload i243_55
theorem i243_56 : insAt 243 56 = some (.iconst 3, 1, (0, 0, 0, 0), 0) := rfl
theorem s243_56 {c : Nat → List AV → SS → Option Out} {l0 l1 l2 : Option AV} {L2 : List (Nat × AV)} {St : List AV} {S : SS} : ev c 243 56 [l0, l1, l2] L2 St S = ev c 243 57 [l0, l1, l2] L2 (aI 3 :: St) S := ev_go i243_56 rfl
theorem i243_57 : insAt 243 57 = some (.invokevirtual 75, 3, (231, 2, 2, 12), 396) := rfl
theorem s243_57 {c : Nat → List AV → SS → Option Out} {l0 l1 l2 : Option AV} {t0 t1 : AV} {a0 : Int32} {a1 : Int32} {j t : Nat} {L2 : List (Nat × AV)} {S : SS} : ev c 243 57 [l0, l1, l2] L2 [aI a1, aI a0, aR (12, j, t), t0, t1] S = ck (c 231 [aR (12, j, t), aI a0, aI a1] S) (fun v S' => ev c 243 60 [l0, l1, l2] L2 (v.toList ++ [t0, t1]) S') := ev_call i243_57 rfl
theorem i243_60 : insAt 243 60 = some (.iastore, 1, (0, 0, 0, 0), 0) := rfl
theorem s243_60 {c : Nat → List AV → SS → Option Out} {l0 l1 l2 : Option AV} {x i : Int32} {o : OId} {L2 : List (Nat × AV)} {St : List AV} {S : SS} : ev c 243 60 [l0, l1, l2] L2 (aI x :: aI i :: aR o :: St) S = kIw o i (ev c 243 61 [l0, l1, l2] L2 St (setI S.1 o i.toNatClampNeg x, S.2)) := ev_iastore i243_60
theorem i243_61 : insAt 243 61 = some (.aload_n 0, 1, (0, 0, 0, 0), 0) := rfl
theorem s243_61 {c : Nat → List AV → SS → Option Out} {l1 l2 : Option AV} {o : OId} {L2 : List (Nat × AV)} {St : List AV} {S : SS} : ev c 243 61 [some (aR o), l1, l2] L2 St S = ev c 243 62 [some (aR o), l1, l2] L2 (aR o :: St) S := ev_go i243_61 rfl
theorem i243_62 : insAt 243 62 = some (.getfield 7, 3, (12, 0, 0, 0), 364) := rfl
theorem s243_62 {c : Nat → List AV → SS → Option Out} {l0 l1 l2 : Option AV} {j t : Nat} {L2 : List (Nat × AV)} {St : List AV} {S : SS} : ev c 243 62 [l0, l1, l2] L2 (aR (12, j, t) :: St) S = ev c 243 65 [l0, l1, l2] L2 (S.2.2.1 (12, j, t) 0 :: St) S := ev_go i243_62 rfl
theorem i243_65 : insAt 243 65 = some (.bipush 9, 2, (0, 0, 0, 0), 0) := rfl
theorem s243_65 {c : Nat → List AV → SS → Option Out} {l0 l1 l2 : Option AV} {L2 : List (Nat × AV)} {St : List AV} {S : SS} : ev c 243 65 [l0, l1, l2] L2 St S = ev c 243 67 [l0, l1, l2] L2 (aI 9 :: St) S := ev_go i243_65 rfl
theorem i243_67 : insAt 243 67 = some (.iconst 3, 1, (0, 0, 0, 0), 0) := rfl
theorem s243_67 {c : Nat → List AV → SS → Option Out} {l0 l1 l2 : Option AV} {L2 : List (Nat × AV)} {St : List AV} {S : SS} : ev c 243 67 [l0, l1, l2] L2 St S = ev c 243 68 [l0, l1, l2] L2 (aI 3 :: St) S := ev_go i243_67 rfl
theorem i243_68 : insAt 243 68 = some (.iload_n 2, 1, (0, 0, 0, 0), 0) := rfl
theorem s243_68 {c : Nat → List AV → SS → Option Out} {l0 l1 : Option AV} {x : Int32} {L2 : List (Nat × AV)} {St : List AV} {S : SS} : ev c 243 68 [l0, l1, some (aI x)] L2 St S = ev c 243 69 [l0, l1, some (aI x)] L2 (aI x :: St) S := ev_go i243_68 rfl
theorem i243_69 : insAt 243 69 = some (.imul, 1, (0, 0, 0, 0), 0) := rfl
theorem s243_69 {c : Nat → List AV → SS → Option Out} {l0 l1 l2 : Option AV} {x y : Int32} {L2 : List (Nat × AV)} {St : List AV} {S : SS} : ev c 243 69 [l0, l1, l2] L2 (aI y :: aI x :: St) S = ev c 243 70 [l0, l1, l2] L2 (aI (x * y) :: St) S := ev_go i243_69 rfl
theorem i243_70 : insAt 243 70 = some (.iadd, 1, (0, 0, 0, 0), 0) := rfl
theorem s243_70 {c : Nat → List AV → SS → Option Out} {l0 l1 l2 : Option AV} {x y : Int32} {L2 : List (Nat × AV)} {St : List AV} {S : SS} : ev c 243 70 [l0, l1, l2] L2 (aI y :: aI x :: St) S = ev c 243 71 [l0, l1, l2] L2 (aI (x + y) :: St) S := ev_go i243_70 rfl
theorem i243_71 : insAt 243 71 = some (.iconst 2, 1, (0, 0, 0, 0), 0) := rfl
theorem s243_71 {c : Nat → List AV → SS → Option Out} {l0 l1 l2 : Option AV} {L2 : List (Nat × AV)} {St : List AV} {S : SS} : ev c 243 71 [l0, l1, l2] L2 St S = ev c 243 72 [l0, l1, l2] L2 (aI 2 :: St) S := ev_go i243_71 rfl
theorem i243_72 : insAt 243 72 = some (.iadd, 1, (0, 0, 0, 0), 0) := rfl
theorem s243_72 {c : Nat → List AV → SS → Option Out} {l0 l1 l2 : Option AV} {x y : Int32} {L2 : List (Nat × AV)} {St : List AV} {S : SS} : ev c 243 72 [l0, l1, l2] L2 (aI y :: aI x :: St) S = ev c 243 73 [l0, l1, l2] L2 (aI (x + y) :: St) S := ev_go i243_72 rfl
theorem i243_73 : insAt 243 73 = some (.aload_n 0, 1, (0, 0, 0, 0), 0) := rfl
theorem s243_73 {c : Nat → List AV → SS → Option Out} {l1 l2 : Option AV} {o : OId} {L2 : List (Nat × AV)} {St : List AV} {S : SS} : ev c 243 73 [some (aR o), l1, l2] L2 St S = ev c 243 74 [some (aR o), l1, l2] L2 (aR o :: St) S := ev_go i243_73 rfl
theorem i243_74 : insAt 243 74 = some (.getfield 25, 3, (12, 5, 0, 0), 369) := rfl
theorem s243_74 {c : Nat → List AV → SS → Option Out} {l0 l1 l2 : Option AV} {j t : Nat} {L2 : List (Nat × AV)} {St : List AV} {S : SS} : ev c 243 74 [l0, l1, l2] L2 (aR (12, j, t) :: St) S = ev c 243 77 [l0, l1, l2] L2 (S.2.2.1 (12, j, t) 5 :: St) S := ev_go i243_74 rfl
theorem i243_77 : insAt 243 77 = some (.iload_n 2, 1, (0, 0, 0, 0), 0) := rfl
theorem s243_77 {c : Nat → List AV → SS → Option Out} {l0 l1 : Option AV} {x : Int32} {L2 : List (Nat × AV)} {St : List AV} {S : SS} : ev c 243 77 [l0, l1, some (aI x)] L2 St S = ev c 243 78 [l0, l1, some (aI x)] L2 (aI x :: St) S := ev_go i243_77 rfl
theorem i243_78 : insAt 243 78 = some (.iaload, 1, (0, 0, 0, 0), 0) := rfl
theorem s243_78 {c : Nat → List AV → SS → Option Out} {l0 l1 l2 : Option AV} {i : Int32} {o : OId} {L2 : List (Nat × AV)} {St : List AV} {S : SS} : ev c 243 78 [l0, l1, l2] L2 (aI i :: aR o :: St) S = kI o i (ev c 243 79 [l0, l1, l2] L2 (aI (agI S o i.toNatClampNeg) :: St) S) := ev_iaload i243_78
theorem i243_79 : insAt 243 79 = some (.iastore, 1, (0, 0, 0, 0), 0) := rfl
theorem s243_79 {c : Nat → List AV → SS → Option Out} {l0 l1 l2 : Option AV} {x i : Int32} {o : OId} {L2 : List (Nat × AV)} {St : List AV} {S : SS} : ev c 243 79 [l0, l1, l2] L2 (aI x :: aI i :: aR o :: St) S = kIw o i (ev c 243 80 [l0, l1, l2] L2 St (setI S.1 o i.toNatClampNeg x, S.2)) := ev_iastore i243_79
theorem i243_80 : insAt 243 80 = some (.aload_n 0, 1, (0, 0, 0, 0), 0) := rfl
theorem s243_80 {c : Nat → List AV → SS → Option Out} {l1 l2 : Option AV} {o : OId} {L2 : List (Nat × AV)} {St : List AV} {S : SS} : ev c 243 80 [some (aR o), l1, l2] L2 St S = ev c 243 81 [some (aR o), l1, l2] L2 (aR o :: St) S := ev_go i243_80 rfl
theorem i243_81 : insAt 243 81 = some (.aload_n 0, 1, (0, 0, 0, 0), 0) := rfl
theorem s243_81 {c : Nat → List AV → SS → Option Out} {l1 l2 : Option AV} {o : OId} {L2 : List (Nat × AV)} {St : List AV} {S : SS} : ev c 243 81 [some (aR o), l1, l2] L2 St S = ev c 243 82 [some (aR o), l1, l2] L2 (aR o :: St) S := ev_go i243_81 rfl
theorem i243_82 : insAt 243 82 = some (.getfield 22, 3, (12, 4, 0, 0), 368) := rfl
theorem s243_82 {c : Nat → List AV → SS → Option Out} {l0 l1 l2 : Option AV} {j t : Nat} {L2 : List (Nat × AV)} {St : List AV} {S : SS} : ev c 243 82 [l0, l1, l2] L2 (aR (12, j, t) :: St) S = ev c 243 85 [l0, l1, l2] L2 (S.2.2.1 (12, j, t) 4 :: St) S := ev_go i243_82 rfl
theorem i243_85 : insAt 243 85 = some (.iload_n 2, 1, (0, 0, 0, 0), 0) := rfl
theorem s243_85 {c : Nat → List AV → SS → Option Out} {l0 l1 : Option AV} {x : Int32} {L2 : List (Nat × AV)} {St : List AV} {S : SS} : ev c 243 85 [l0, l1, some (aI x)] L2 St S = ev c 243 86 [l0, l1, some (aI x)] L2 (aI x :: St) S := ev_go i243_85 rfl
theorem i243_86 : insAt 243 86 = some (.iaload, 1, (0, 0, 0, 0), 0) := rfl
theorem s243_86 {c : Nat → List AV → SS → Option Out} {l0 l1 l2 : Option AV} {i : Int32} {o : OId} {L2 : List (Nat × AV)} {St : List AV} {S : SS} : ev c 243 86 [l0, l1, l2] L2 (aI i :: aR o :: St) S = kI o i (ev c 243 87 [l0, l1, l2] L2 (aI (agI S o i.toNatClampNeg) :: St) S) := ev_iaload i243_86
theorem i243_87 : insAt 243 87 = some (.iconst 3, 1, (0, 0, 0, 0), 0) := rfl
theorem s243_87 {c : Nat → List AV → SS → Option Out} {l0 l1 l2 : Option AV} {L2 : List (Nat × AV)} {St : List AV} {S : SS} : ev c 243 87 [l0, l1, l2] L2 St S = ev c 243 88 [l0, l1, l2] L2 (aI 3 :: St) S := ev_go i243_87 rfl
theorem i243_88 : insAt 243 88 = some (.aload_n 0, 1, (0, 0, 0, 0), 0) := rfl
theorem s243_88 {c : Nat → List AV → SS → Option Out} {l1 l2 : Option AV} {o : OId} {L2 : List (Nat × AV)} {St : List AV} {S : SS} : ev c 243 88 [some (aR o), l1, l2] L2 St S = ev c 243 89 [some (aR o), l1, l2] L2 (aR o :: St) S := ev_go i243_88 rfl
theorem i243_89 : insAt 243 89 = some (.getfield 25, 3, (12, 5, 0, 0), 369) := rfl
theorem s243_89 {c : Nat → List AV → SS → Option Out} {l0 l1 l2 : Option AV} {j t : Nat} {L2 : List (Nat × AV)} {St : List AV} {S : SS} : ev c 243 89 [l0, l1, l2] L2 (aR (12, j, t) :: St) S = ev c 243 92 [l0, l1, l2] L2 (S.2.2.1 (12, j, t) 5 :: St) S := ev_go i243_89 rfl
theorem i243_92 : insAt 243 92 = some (.iload_n 2, 1, (0, 0, 0, 0), 0) := rfl
theorem s243_92 {c : Nat → List AV → SS → Option Out} {l0 l1 : Option AV} {x : Int32} {L2 : List (Nat × AV)} {St : List AV} {S : SS} : ev c 243 92 [l0, l1, some (aI x)] L2 St S = ev c 243 93 [l0, l1, some (aI x)] L2 (aI x :: St) S := ev_go i243_92 rfl
theorem i243_93 : insAt 243 93 = some (.iaload, 1, (0, 0, 0, 0), 0) := rfl
theorem s243_93 {c : Nat → List AV → SS → Option Out} {l0 l1 l2 : Option AV} {i : Int32} {o : OId} {L2 : List (Nat × AV)} {St : List AV} {S : SS} : ev c 243 93 [l0, l1, l2] L2 (aI i :: aR o :: St) S = kI o i (ev c 243 94 [l0, l1, l2] L2 (aI (agI S o i.toNatClampNeg) :: St) S) := ev_iaload i243_93
theorem i243_94 : insAt 243 94 = some (.invokevirtual 79, 3, (242, 3, 2, 12), 397) := rfl
theorem s243_94 {c : Nat → List AV → SS → Option Out} {l0 l1 l2 : Option AV} {a0 : Int32} {a1 : Int32} {a2 : Int32} {j t : Nat} {L2 : List (Nat × AV)} {S : SS} : ev c 243 94 [l0, l1, l2] L2 [aI a2, aI a1, aI a0, aR (12, j, t)] S = ck (c 242 [aR (12, j, t), aI a0, aI a1, aI a2] S) (fun v S' => ev c 243 97 [l0, l1, l2] L2 (v.toList ++ []) S') := ev_call i243_94 rfl
theorem i243_97 : insAt 243 97 = some (.iinc 2 1, 3, (0, 0, 0, 0), 0) := rfl
theorem s243_97 {c : Nat → List AV → SS → Option Out} {l0 l1 : Option AV} {x : Int32} {L2 : List (Nat × AV)} {St : List AV} {S : SS} : ev c 243 97 [l0, l1, some (aI x)] L2 St S = ev c 243 100 [l0, l1, some (aI (x + 1))] (kil L2 2) St S := ev_go i243_97 rfl
theorem i243_100 : insAt 243 100 = some (.goto (-90), 3, (0, 0, 0, 0), 0) := rfl
theorem s243_100 {c : Nat → List AV → SS → Option Out} {l0 l1 l2 : Option AV} {L2 : List (Nat × AV)} {St : List AV} {S : SS} : ev c 243 100 [l0, l1, l2] L2 St S = ev c 243 10 [l0, l1, l2] L2 St S := ev_go i243_100 rfl
theorem i243_103 : insAt 243 103 = some (.return_, 1, (0, 0, 0, 0), 0) := rfl
theorem s243_103 {c : Nat → List AV → SS → Option Out} {l0 l1 l2 : Option AV} {L2 : List (Nat × AV)} {S : SS} : ev c 243 103 [l0, l1, l2] L2 [] S = some (.inl none, S) := ev_end i243_103 rfl
theorem m243 {d : Nat} {o : OId} {a0 : Int32} {S : SS} : evm (d + 1) 243 [aR o, aI a0] S = ev (evm d) 243 0 [some (aR o), some (aI a0), none] [] [] S := evm_s (n := 3) rfl (Nat.le_of_ble_eq_true rfl) rfl rfl
/-! FrequencyOfficeModel.adds(IIIII)I -/
theorem i244_0 : insAt 244 0 = some (.aload_n 0, 1, (0, 0, 0, 0), 0) := rfl
theorem s244_0 {c : Nat → List AV → SS → Option Out} {l1 l2 l3 l4 l5 l6 l7 : Option AV} {o : OId} {L2 : List (Nat × AV)} {St : List AV} {S : SS} : ev c 244 0 [some (aR o), l1, l2, l3, l4, l5, l6, l7] L2 St S = ev c 244 1 [some (aR o), l1, l2, l3, l4, l5, l6, l7] L2 (aR o :: St) S := ev_go i244_0 rfl
theorem i244_1 : insAt 244 1 = some (.getfield 7, 3, (12, 0, 0, 0), 364) := rfl
theorem s244_1 {c : Nat → List AV → SS → Option Out} {l0 l1 l2 l3 l4 l5 l6 l7 : Option AV} {j t : Nat} {L2 : List (Nat × AV)} {St : List AV} {S : SS} : ev c 244 1 [l0, l1, l2, l3, l4, l5, l6, l7] L2 (aR (12, j, t) :: St) S = ev c 244 4 [l0, l1, l2, l3, l4, l5, l6, l7] L2 (S.2.2.1 (12, j, t) 0 :: St) S := ev_go i244_1 rfl
theorem i244_4 : insAt 244 4 = some (.bipush 7, 2, (0, 0, 0, 0), 0) := rfl
theorem s244_4 {c : Nat → List AV → SS → Option Out} {l0 l1 l2 l3 l4 l5 l6 l7 : Option AV} {L2 : List (Nat × AV)} {St : List AV} {S : SS} : ev c 244 4 [l0, l1, l2, l3, l4, l5, l6, l7] L2 St S = ev c 244 6 [l0, l1, l2, l3, l4, l5, l6, l7] L2 (aI 7 :: St) S := ev_go i244_4 rfl
theorem i244_6 : insAt 244 6 = some (.iaload, 1, (0, 0, 0, 0), 0) := rfl
theorem s244_6 {c : Nat → List AV → SS → Option Out} {l0 l1 l2 l3 l4 l5 l6 l7 : Option AV} {i : Int32} {o : OId} {L2 : List (Nat × AV)} {St : List AV} {S : SS} : ev c 244 6 [l0, l1, l2, l3, l4, l5, l6, l7] L2 (aI i :: aR o :: St) S = kI o i (ev c 244 7 [l0, l1, l2, l3, l4, l5, l6, l7] L2 (aI (agI S o i.toNatClampNeg) :: St) S) := ev_iaload i244_6
theorem i244_7 : insAt 244 7 = some (.istore 6, 2, (0, 0, 0, 0), 0) := rfl
theorem s244_7 {c : Nat → List AV → SS → Option Out} {l0 l1 l2 l3 l4 l5 l6 l7 : Option AV} {x : Int32} {L2 : List (Nat × AV)} {St : List AV} {S : SS} : ev c 244 7 [l0, l1, l2, l3, l4, l5, l6, l7] L2 (aI x :: St) S = ev c 244 9 [l0, l1, l2, l3, l4, l5, some (aI x), l7] (kil L2 6) St S := ev_go i244_7 rfl
theorem i244_9 : insAt 244 9 = some (.aload_n 0, 1, (0, 0, 0, 0), 0) := rfl
theorem s244_9 {c : Nat → List AV → SS → Option Out} {l1 l2 l3 l4 l5 l6 l7 : Option AV} {o : OId} {L2 : List (Nat × AV)} {St : List AV} {S : SS} : ev c 244 9 [some (aR o), l1, l2, l3, l4, l5, l6, l7] L2 St S = ev c 244 10 [some (aR o), l1, l2, l3, l4, l5, l6, l7] L2 (aR o :: St) S := ev_go i244_9 rfl
theorem i244_10 : insAt 244 10 = some (.iload 6, 2, (0, 0, 0, 0), 0) := rfl
theorem s244_10 {c : Nat → List AV → SS → Option Out} {l0 l1 l2 l3 l4 l5 l7 : Option AV} {x : Int32} {L2 : List (Nat × AV)} {St : List AV} {S : SS} : ev c 244 10 [l0, l1, l2, l3, l4, l5, some (aI x), l7] L2 St S = ev c 244 12 [l0, l1, l2, l3, l4, l5, some (aI x), l7] L2 (aI x :: St) S := ev_go i244_10 rfl
theorem i244_12 : insAt 244 12 = some (.iconst 0, 1, (0, 0, 0, 0), 0) := rfl
theorem s244_12 {c : Nat → List AV → SS → Option Out} {l0 l1 l2 l3 l4 l5 l6 l7 : Option AV} {L2 : List (Nat × AV)} {St : List AV} {S : SS} : ev c 244 12 [l0, l1, l2, l3, l4, l5, l6, l7] L2 St S = ev c 244 13 [l0, l1, l2, l3, l4, l5, l6, l7] L2 (aI 0 :: St) S := ev_go i244_12 rfl
theorem i244_13 : insAt 244 13 = some (.aload_n 0, 1, (0, 0, 0, 0), 0) := rfl
theorem s244_13 {c : Nat → List AV → SS → Option Out} {l1 l2 l3 l4 l5 l6 l7 : Option AV} {o : OId} {L2 : List (Nat × AV)} {St : List AV} {S : SS} : ev c 244 13 [some (aR o), l1, l2, l3, l4, l5, l6, l7] L2 St S = ev c 244 14 [some (aR o), l1, l2, l3, l4, l5, l6, l7] L2 (aR o :: St) S := ev_go i244_13 rfl
theorem i244_14 : insAt 244 14 = some (.getfield 7, 3, (12, 0, 0, 0), 364) := rfl
theorem s244_14 {c : Nat → List AV → SS → Option Out} {l0 l1 l2 l3 l4 l5 l6 l7 : Option AV} {j t : Nat} {L2 : List (Nat × AV)} {St : List AV} {S : SS} : ev c 244 14 [l0, l1, l2, l3, l4, l5, l6, l7] L2 (aR (12, j, t) :: St) S = ev c 244 17 [l0, l1, l2, l3, l4, l5, l6, l7] L2 (S.2.2.1 (12, j, t) 0 :: St) S := ev_go i244_14 rfl
theorem i244_17 : insAt 244 17 = some (.iconst 4, 1, (0, 0, 0, 0), 0) := rfl
theorem s244_17 {c : Nat → List AV → SS → Option Out} {l0 l1 l2 l3 l4 l5 l6 l7 : Option AV} {L2 : List (Nat × AV)} {St : List AV} {S : SS} : ev c 244 17 [l0, l1, l2, l3, l4, l5, l6, l7] L2 St S = ev c 244 18 [l0, l1, l2, l3, l4, l5, l6, l7] L2 (aI 4 :: St) S := ev_go i244_17 rfl
theorem i244_18 : insAt 244 18 = some (.iaload, 1, (0, 0, 0, 0), 0) := rfl
theorem s244_18 {c : Nat → List AV → SS → Option Out} {l0 l1 l2 l3 l4 l5 l6 l7 : Option AV} {i : Int32} {o : OId} {L2 : List (Nat × AV)} {St : List AV} {S : SS} : ev c 244 18 [l0, l1, l2, l3, l4, l5, l6, l7] L2 (aI i :: aR o :: St) S = kI o i (ev c 244 19 [l0, l1, l2, l3, l4, l5, l6, l7] L2 (aI (agI S o i.toNatClampNeg) :: St) S) := ev_iaload i244_18
theorem i244_19 : insAt 244 19 = some (.invokevirtual 79, 3, (242, 3, 2, 12), 397) := rfl
theorem s244_19 {c : Nat → List AV → SS → Option Out} {l0 l1 l2 l3 l4 l5 l6 l7 : Option AV} {a0 : Int32} {a1 : Int32} {a2 : Int32} {j t : Nat} {L2 : List (Nat × AV)} {S : SS} : ev c 244 19 [l0, l1, l2, l3, l4, l5, l6, l7] L2 [aI a2, aI a1, aI a0, aR (12, j, t)] S = ck (c 242 [aR (12, j, t), aI a0, aI a1, aI a2] S) (fun v S' => ev c 244 22 [l0, l1, l2, l3, l4, l5, l6, l7] L2 (v.toList ++ []) S') := ev_call i244_19 rfl
theorem i244_22 : insAt 244 22 = some (.aload_n 0, 1, (0, 0, 0, 0), 0) := rfl
theorem s244_22 {c : Nat → List AV → SS → Option Out} {l1 l2 l3 l4 l5 l6 l7 : Option AV} {o : OId} {L2 : List (Nat × AV)} {St : List AV} {S : SS} : ev c 244 22 [some (aR o), l1, l2, l3, l4, l5, l6, l7] L2 St S = ev c 244 23 [some (aR o), l1, l2, l3, l4, l5, l6, l7] L2 (aR o :: St) S := ev_go i244_22 rfl
theorem i244_23 : insAt 244 23 = some (.iload 6, 2, (0, 0, 0, 0), 0) := rfl
theorem s244_23 {c : Nat → List AV → SS → Option Out} {l0 l1 l2 l3 l4 l5 l7 : Option AV} {x : Int32} {L2 : List (Nat × AV)} {St : List AV} {S : SS} : ev c 244 23 [l0, l1, l2, l3, l4, l5, some (aI x), l7] L2 St S = ev c 244 25 [l0, l1, l2, l3, l4, l5, some (aI x), l7] L2 (aI x :: St) S := ev_go i244_23 rfl
theorem i244_25 : insAt 244 25 = some (.iconst 1, 1, (0, 0, 0, 0), 0) := rfl
theorem s244_25 {c : Nat → List AV → SS → Option Out} {l0 l1 l2 l3 l4 l5 l6 l7 : Option AV} {L2 : List (Nat × AV)} {St : List AV} {S : SS} : ev c 244 25 [l0, l1, l2, l3, l4, l5, l6, l7] L2 St S = ev c 244 26 [l0, l1, l2, l3, l4, l5, l6, l7] L2 (aI 1 :: St) S := ev_go i244_25 rfl
theorem i244_26 : insAt 244 26 = some (.iload_n 1, 1, (0, 0, 0, 0), 0) := rfl
theorem s244_26 {c : Nat → List AV → SS → Option Out} {l0 l2 l3 l4 l5 l6 l7 : Option AV} {x : Int32} {L2 : List (Nat × AV)} {St : List AV} {S : SS} : ev c 244 26 [l0, some (aI x), l2, l3, l4, l5, l6, l7] L2 St S = ev c 244 27 [l0, some (aI x), l2, l3, l4, l5, l6, l7] L2 (aI x :: St) S := ev_go i244_26 rfl
theorem i244_27 : insAt 244 27 = some (.invokevirtual 79, 3, (242, 3, 2, 12), 397) := rfl
theorem s244_27 {c : Nat → List AV → SS → Option Out} {l0 l1 l2 l3 l4 l5 l6 l7 : Option AV} {a0 : Int32} {a1 : Int32} {a2 : Int32} {j t : Nat} {L2 : List (Nat × AV)} {S : SS} : ev c 244 27 [l0, l1, l2, l3, l4, l5, l6, l7] L2 [aI a2, aI a1, aI a0, aR (12, j, t)] S = ck (c 242 [aR (12, j, t), aI a0, aI a1, aI a2] S) (fun v S' => ev c 244 30 [l0, l1, l2, l3, l4, l5, l6, l7] L2 (v.toList ++ []) S') := ev_call i244_27 rfl
theorem i244_30 : insAt 244 30 = some (.aload_n 0, 1, (0, 0, 0, 0), 0) := rfl
theorem s244_30 {c : Nat → List AV → SS → Option Out} {l1 l2 l3 l4 l5 l6 l7 : Option AV} {o : OId} {L2 : List (Nat × AV)} {St : List AV} {S : SS} : ev c 244 30 [some (aR o), l1, l2, l3, l4, l5, l6, l7] L2 St S = ev c 244 31 [some (aR o), l1, l2, l3, l4, l5, l6, l7] L2 (aR o :: St) S := ev_go i244_30 rfl
theorem i244_31 : insAt 244 31 = some (.iload 6, 2, (0, 0, 0, 0), 0) := rfl
theorem s244_31 {c : Nat → List AV → SS → Option Out} {l0 l1 l2 l3 l4 l5 l7 : Option AV} {x : Int32} {L2 : List (Nat × AV)} {St : List AV} {S : SS} : ev c 244 31 [l0, l1, l2, l3, l4, l5, some (aI x), l7] L2 St S = ev c 244 33 [l0, l1, l2, l3, l4, l5, some (aI x), l7] L2 (aI x :: St) S := ev_go i244_31 rfl
theorem i244_33 : insAt 244 33 = some (.iconst 2, 1, (0, 0, 0, 0), 0) := rfl
theorem s244_33 {c : Nat → List AV → SS → Option Out} {l0 l1 l2 l3 l4 l5 l6 l7 : Option AV} {L2 : List (Nat × AV)} {St : List AV} {S : SS} : ev c 244 33 [l0, l1, l2, l3, l4, l5, l6, l7] L2 St S = ev c 244 34 [l0, l1, l2, l3, l4, l5, l6, l7] L2 (aI 2 :: St) S := ev_go i244_33 rfl
theorem i244_34 : insAt 244 34 = some (.iload_n 2, 1, (0, 0, 0, 0), 0) := rfl
theorem s244_34 {c : Nat → List AV → SS → Option Out} {l0 l1 l3 l4 l5 l6 l7 : Option AV} {x : Int32} {L2 : List (Nat × AV)} {St : List AV} {S : SS} : ev c 244 34 [l0, l1, some (aI x), l3, l4, l5, l6, l7] L2 St S = ev c 244 35 [l0, l1, some (aI x), l3, l4, l5, l6, l7] L2 (aI x :: St) S := ev_go i244_34 rfl
theorem i244_35 : insAt 244 35 = some (.invokevirtual 79, 3, (242, 3, 2, 12), 397) := rfl
theorem s244_35 {c : Nat → List AV → SS → Option Out} {l0 l1 l2 l3 l4 l5 l6 l7 : Option AV} {a0 : Int32} {a1 : Int32} {a2 : Int32} {j t : Nat} {L2 : List (Nat × AV)} {S : SS} : ev c 244 35 [l0, l1, l2, l3, l4, l5, l6, l7] L2 [aI a2, aI a1, aI a0, aR (12, j, t)] S = ck (c 242 [aR (12, j, t), aI a0, aI a1, aI a2] S) (fun v S' => ev c 244 38 [l0, l1, l2, l3, l4, l5, l6, l7] L2 (v.toList ++ []) S') := ev_call i244_35 rfl
theorem i244_38 : insAt 244 38 = some (.aload_n 0, 1, (0, 0, 0, 0), 0) := rfl
theorem s244_38 {c : Nat → List AV → SS → Option Out} {l1 l2 l3 l4 l5 l6 l7 : Option AV} {o : OId} {L2 : List (Nat × AV)} {St : List AV} {S : SS} : ev c 244 38 [some (aR o), l1, l2, l3, l4, l5, l6, l7] L2 St S = ev c 244 39 [some (aR o), l1, l2, l3, l4, l5, l6, l7] L2 (aR o :: St) S := ev_go i244_38 rfl
theorem i244_39 : insAt 244 39 = some (.iload 6, 2, (0, 0, 0, 0), 0) := rfl
theorem s244_39 {c : Nat → List AV → SS → Option Out} {l0 l1 l2 l3 l4 l5 l7 : Option AV} {x : Int32} {L2 : List (Nat × AV)} {St : List AV} {S : SS} : ev c 244 39 [l0, l1, l2, l3, l4, l5, some (aI x), l7] L2 St S = ev c 244 41 [l0, l1, l2, l3, l4, l5, some (aI x), l7] L2 (aI x :: St) S := ev_go i244_39 rfl
theorem i244_41 : insAt 244 41 = some (.iconst 3, 1, (0, 0, 0, 0), 0) := rfl
theorem s244_41 {c : Nat → List AV → SS → Option Out} {l0 l1 l2 l3 l4 l5 l6 l7 : Option AV} {L2 : List (Nat × AV)} {St : List AV} {S : SS} : ev c 244 41 [l0, l1, l2, l3, l4, l5, l6, l7] L2 St S = ev c 244 42 [l0, l1, l2, l3, l4, l5, l6, l7] L2 (aI 3 :: St) S := ev_go i244_41 rfl
theorem i244_42 : insAt 244 42 = some (.iload_n 3, 1, (0, 0, 0, 0), 0) := rfl
theorem s244_42 {c : Nat → List AV → SS → Option Out} {l0 l1 l2 l4 l5 l6 l7 : Option AV} {x : Int32} {L2 : List (Nat × AV)} {St : List AV} {S : SS} : ev c 244 42 [l0, l1, l2, some (aI x), l4, l5, l6, l7] L2 St S = ev c 244 43 [l0, l1, l2, some (aI x), l4, l5, l6, l7] L2 (aI x :: St) S := ev_go i244_42 rfl
theorem i244_43 : insAt 244 43 = some (.invokevirtual 79, 3, (242, 3, 2, 12), 397) := rfl
theorem s244_43 {c : Nat → List AV → SS → Option Out} {l0 l1 l2 l3 l4 l5 l6 l7 : Option AV} {a0 : Int32} {a1 : Int32} {a2 : Int32} {j t : Nat} {L2 : List (Nat × AV)} {S : SS} : ev c 244 43 [l0, l1, l2, l3, l4, l5, l6, l7] L2 [aI a2, aI a1, aI a0, aR (12, j, t)] S = ck (c 242 [aR (12, j, t), aI a0, aI a1, aI a2] S) (fun v S' => ev c 244 46 [l0, l1, l2, l3, l4, l5, l6, l7] L2 (v.toList ++ []) S') := ev_call i244_43 rfl
theorem i244_46 : insAt 244 46 = some (.aload_n 0, 1, (0, 0, 0, 0), 0) := rfl
theorem s244_46 {c : Nat → List AV → SS → Option Out} {l1 l2 l3 l4 l5 l6 l7 : Option AV} {o : OId} {L2 : List (Nat × AV)} {St : List AV} {S : SS} : ev c 244 46 [some (aR o), l1, l2, l3, l4, l5, l6, l7] L2 St S = ev c 244 47 [some (aR o), l1, l2, l3, l4, l5, l6, l7] L2 (aR o :: St) S := ev_go i244_46 rfl
theorem i244_47 : insAt 244 47 = some (.iload 6, 2, (0, 0, 0, 0), 0) := rfl
theorem s244_47 {c : Nat → List AV → SS → Option Out} {l0 l1 l2 l3 l4 l5 l7 : Option AV} {x : Int32} {L2 : List (Nat × AV)} {St : List AV} {S : SS} : ev c 244 47 [l0, l1, l2, l3, l4, l5, some (aI x), l7] L2 St S = ev c 244 49 [l0, l1, l2, l3, l4, l5, some (aI x), l7] L2 (aI x :: St) S := ev_go i244_47 rfl
theorem i244_49 : insAt 244 49 = some (.iconst 4, 1, (0, 0, 0, 0), 0) := rfl
theorem s244_49 {c : Nat → List AV → SS → Option Out} {l0 l1 l2 l3 l4 l5 l6 l7 : Option AV} {L2 : List (Nat × AV)} {St : List AV} {S : SS} : ev c 244 49 [l0, l1, l2, l3, l4, l5, l6, l7] L2 St S = ev c 244 50 [l0, l1, l2, l3, l4, l5, l6, l7] L2 (aI 4 :: St) S := ev_go i244_49 rfl
theorem i244_50 : insAt 244 50 = some (.aload_n 0, 1, (0, 0, 0, 0), 0) := rfl
theorem s244_50 {c : Nat → List AV → SS → Option Out} {l1 l2 l3 l4 l5 l6 l7 : Option AV} {o : OId} {L2 : List (Nat × AV)} {St : List AV} {S : SS} : ev c 244 50 [some (aR o), l1, l2, l3, l4, l5, l6, l7] L2 St S = ev c 244 51 [some (aR o), l1, l2, l3, l4, l5, l6, l7] L2 (aR o :: St) S := ev_go i244_50 rfl
theorem i244_51 : insAt 244 51 = some (.getfield 7, 3, (12, 0, 0, 0), 364) := rfl
theorem s244_51 {c : Nat → List AV → SS → Option Out} {l0 l1 l2 l3 l4 l5 l6 l7 : Option AV} {j t : Nat} {L2 : List (Nat × AV)} {St : List AV} {S : SS} : ev c 244 51 [l0, l1, l2, l3, l4, l5, l6, l7] L2 (aR (12, j, t) :: St) S = ev c 244 54 [l0, l1, l2, l3, l4, l5, l6, l7] L2 (S.2.2.1 (12, j, t) 0 :: St) S := ev_go i244_51 rfl
theorem i244_54 : insAt 244 54 = some (.iconst 3, 1, (0, 0, 0, 0), 0) := rfl
theorem s244_54 {c : Nat → List AV → SS → Option Out} {l0 l1 l2 l3 l4 l5 l6 l7 : Option AV} {L2 : List (Nat × AV)} {St : List AV} {S : SS} : ev c 244 54 [l0, l1, l2, l3, l4, l5, l6, l7] L2 St S = ev c 244 55 [l0, l1, l2, l3, l4, l5, l6, l7] L2 (aI 3 :: St) S := ev_go i244_54 rfl
theorem i244_55 : insAt 244 55 = some (.iaload, 1, (0, 0, 0, 0), 0) := rfl
theorem s244_55 {c : Nat → List AV → SS → Option Out} {l0 l1 l2 l3 l4 l5 l6 l7 : Option AV} {i : Int32} {o : OId} {L2 : List (Nat × AV)} {St : List AV} {S : SS} : ev c 244 55 [l0, l1, l2, l3, l4, l5, l6, l7] L2 (aI i :: aR o :: St) S = kI o i (ev c 244 56 [l0, l1, l2, l3, l4, l5, l6, l7] L2 (aI (agI S o i.toNatClampNeg) :: St) S) := ev_iaload i244_55
theorem i244_56 : insAt 244 56 = some (.iload 4, 2, (0, 0, 0, 0), 0) := rfl
theorem s244_56 {c : Nat → List AV → SS → Option Out} {l0 l1 l2 l3 l5 l6 l7 : Option AV} {x : Int32} {L2 : List (Nat × AV)} {St : List AV} {S : SS} : ev c 244 56 [l0, l1, l2, l3, some (aI x), l5, l6, l7] L2 St S = ev c 244 58 [l0, l1, l2, l3, some (aI x), l5, l6, l7] L2 (aI x :: St) S := ev_go i244_56 rfl
theorem i244_58 : insAt 244 58 = some (.iadd, 1, (0, 0, 0, 0), 0) := rfl
theorem s244_58 {c : Nat → List AV → SS → Option Out} {l0 l1 l2 l3 l4 l5 l6 l7 : Option AV} {x y : Int32} {L2 : List (Nat × AV)} {St : List AV} {S : SS} : ev c 244 58 [l0, l1, l2, l3, l4, l5, l6, l7] L2 (aI y :: aI x :: St) S = ev c 244 59 [l0, l1, l2, l3, l4, l5, l6, l7] L2 (aI (x + y) :: St) S := ev_go i244_58 rfl
theorem i244_59 : insAt 244 59 = some (.invokevirtual 79, 3, (242, 3, 2, 12), 397) := rfl
theorem s244_59 {c : Nat → List AV → SS → Option Out} {l0 l1 l2 l3 l4 l5 l6 l7 : Option AV} {a0 : Int32} {a1 : Int32} {a2 : Int32} {j t : Nat} {L2 : List (Nat × AV)} {S : SS} : ev c 244 59 [l0, l1, l2, l3, l4, l5, l6, l7] L2 [aI a2, aI a1, aI a0, aR (12, j, t)] S = ck (c 242 [aR (12, j, t), aI a0, aI a1, aI a2] S) (fun v S' => ev c 244 62 [l0, l1, l2, l3, l4, l5, l6, l7] L2 (v.toList ++ []) S') := ev_call i244_59 rfl
theorem i244_62 : insAt 244 62 = some (.aload_n 0, 1, (0, 0, 0, 0), 0) := rfl
theorem s244_62 {c : Nat → List AV → SS → Option Out} {l1 l2 l3 l4 l5 l6 l7 : Option AV} {o : OId} {L2 : List (Nat × AV)} {St : List AV} {S : SS} : ev c 244 62 [some (aR o), l1, l2, l3, l4, l5, l6, l7] L2 St S = ev c 244 63 [some (aR o), l1, l2, l3, l4, l5, l6, l7] L2 (aR o :: St) S := ev_go i244_62 rfl
theorem i244_63 : insAt 244 63 = some (.iload 6, 2, (0, 0, 0, 0), 0) := rfl
theorem s244_63 {c : Nat → List AV → SS → Option Out} {l0 l1 l2 l3 l4 l5 l7 : Option AV} {x : Int32} {L2 : List (Nat × AV)} {St : List AV} {S : SS} : ev c 244 63 [l0, l1, l2, l3, l4, l5, some (aI x), l7] L2 St S = ev c 244 65 [l0, l1, l2, l3, l4, l5, some (aI x), l7] L2 (aI x :: St) S := ev_go i244_63 rfl
theorem i244_65 : insAt 244 65 = some (.iconst 5, 1, (0, 0, 0, 0), 0) := rfl
theorem s244_65 {c : Nat → List AV → SS → Option Out} {l0 l1 l2 l3 l4 l5 l6 l7 : Option AV} {L2 : List (Nat × AV)} {St : List AV} {S : SS} : ev c 244 65 [l0, l1, l2, l3, l4, l5, l6, l7] L2 St S = ev c 244 66 [l0, l1, l2, l3, l4, l5, l6, l7] L2 (aI 5 :: St) S := ev_go i244_65 rfl
theorem i244_66 : insAt 244 66 = some (.iload 5, 2, (0, 0, 0, 0), 0) := rfl
theorem s244_66 {c : Nat → List AV → SS → Option Out} {l0 l1 l2 l3 l4 l6 l7 : Option AV} {x : Int32} {L2 : List (Nat × AV)} {St : List AV} {S : SS} : ev c 244 66 [l0, l1, l2, l3, l4, some (aI x), l6, l7] L2 St S = ev c 244 68 [l0, l1, l2, l3, l4, some (aI x), l6, l7] L2 (aI x :: St) S := ev_go i244_66 rfl
theorem i244_68 : insAt 244 68 = some (.invokevirtual 79, 3, (242, 3, 2, 12), 397) := rfl
theorem s244_68 {c : Nat → List AV → SS → Option Out} {l0 l1 l2 l3 l4 l5 l6 l7 : Option AV} {a0 : Int32} {a1 : Int32} {a2 : Int32} {j t : Nat} {L2 : List (Nat × AV)} {S : SS} : ev c 244 68 [l0, l1, l2, l3, l4, l5, l6, l7] L2 [aI a2, aI a1, aI a0, aR (12, j, t)] S = ck (c 242 [aR (12, j, t), aI a0, aI a1, aI a2] S) (fun v S' => ev c 244 71 [l0, l1, l2, l3, l4, l5, l6, l7] L2 (v.toList ++ []) S') := ev_call i244_68 rfl
theorem i244_71 : insAt 244 71 = some (.iconst 0, 1, (0, 0, 0, 0), 0) := rfl
theorem s244_71 {c : Nat → List AV → SS → Option Out} {l0 l1 l2 l3 l4 l5 l6 l7 : Option AV} {L2 : List (Nat × AV)} {St : List AV} {S : SS} : ev c 244 71 [l0, l1, l2, l3, l4, l5, l6, l7] L2 St S = ev c 244 72 [l0, l1, l2, l3, l4, l5, l6, l7] L2 (aI 0 :: St) S := ev_go i244_71 rfl
theorem i244_72 : insAt 244 72 = some (.istore 7, 2, (0, 0, 0, 0), 0) := rfl
theorem s244_72 {c : Nat → List AV → SS → Option Out} {l0 l1 l2 l3 l4 l5 l6 l7 : Option AV} {x : Int32} {L2 : List (Nat × AV)} {St : List AV} {S : SS} : ev c 244 72 [l0, l1, l2, l3, l4, l5, l6, l7] L2 (aI x :: St) S = ev c 244 74 [l0, l1, l2, l3, l4, l5, l6, some (aI x)] (kil L2 7) St S := ev_go i244_72 rfl
theorem i244_74 : insAt 244 74 = some (.iload 7, 2, (0, 0, 0, 0), 0) := rfl
theorem s244_74 {c : Nat → List AV → SS → Option Out} {l0 l1 l2 l3 l4 l5 l6 : Option AV} {x : Int32} {L2 : List (Nat × AV)} {St : List AV} {S : SS} : ev c 244 74 [l0, l1, l2, l3, l4, l5, l6, some (aI x)] L2 St S = ev c 244 76 [l0, l1, l2, l3, l4, l5, l6, some (aI x)] L2 (aI x :: St) S := ev_go i244_74 rfl
theorem i244_76 : insAt 244 76 = some (.bipush 7, 2, (0, 0, 0, 0), 0) := rfl
theorem s244_76 {c : Nat → List AV → SS → Option Out} {l0 l1 l2 l3 l4 l5 l6 l7 : Option AV} {L2 : List (Nat × AV)} {St : List AV} {S : SS} : ev c 244 76 [l0, l1, l2, l3, l4, l5, l6, l7] L2 St S = ev c 244 78 [l0, l1, l2, l3, l4, l5, l6, l7] L2 (aI 7 :: St) S := ev_go i244_76 rfl
theorem i244_78 : insAt 244 78 = some (.if_icmp .ge 18, 3, (0, 0, 0, 0), 0) := rfl
theorem s244_78 {c : Nat → List AV → SS → Option Out} {l0 l1 l2 l3 l4 l5 l6 l7 : Option AV} {x y : Int32} {L2 : List (Nat × AV)} {St : List AV} {S : SS} : ev c 244 78 [l0, l1, l2, l3, l4, l5, l6, l7] L2 (aI y :: aI x :: St) S = if y ≤ x then ev c 244 96 [l0, l1, l2, l3, l4, l5, l6, l7] L2 St S else ev c 244 81 [l0, l1, l2, l3, l4, l5, l6, l7] L2 St S := ev_br i244_78 rfl
theorem i244_81 : insAt 244 81 = some (.aload_n 0, 1, (0, 0, 0, 0), 0) := rfl
theorem s244_81 {c : Nat → List AV → SS → Option Out} {l1 l2 l3 l4 l5 l6 l7 : Option AV} {o : OId} {L2 : List (Nat × AV)} {St : List AV} {S : SS} : ev c 244 81 [some (aR o), l1, l2, l3, l4, l5, l6, l7] L2 St S = ev c 244 82 [some (aR o), l1, l2, l3, l4, l5, l6, l7] L2 (aR o :: St) S := ev_go i244_81 rfl
theorem i244_82 : insAt 244 82 = some (.iload 6, 2, (0, 0, 0, 0), 0) := rfl
theorem s244_82 {c : Nat → List AV → SS → Option Out} {l0 l1 l2 l3 l4 l5 l7 : Option AV} {x : Int32} {L2 : List (Nat × AV)} {St : List AV} {S : SS} : ev c 244 82 [l0, l1, l2, l3, l4, l5, some (aI x), l7] L2 St S = ev c 244 84 [l0, l1, l2, l3, l4, l5, some (aI x), l7] L2 (aI x :: St) S := ev_go i244_82 rfl
theorem i244_84 : insAt 244 84 = some (.iload 7, 2, (0, 0, 0, 0), 0) := rfl
theorem s244_84 {c : Nat → List AV → SS → Option Out} {l0 l1 l2 l3 l4 l5 l6 : Option AV} {x : Int32} {L2 : List (Nat × AV)} {St : List AV} {S : SS} : ev c 244 84 [l0, l1, l2, l3, l4, l5, l6, some (aI x)] L2 St S = ev c 244 86 [l0, l1, l2, l3, l4, l5, l6, some (aI x)] L2 (aI x :: St) S := ev_go i244_84 rfl
theorem i244_86 : insAt 244 86 = some (.iconst 0, 1, (0, 0, 0, 0), 0) := rfl
theorem s244_86 {c : Nat → List AV → SS → Option Out} {l0 l1 l2 l3 l4 l5 l6 l7 : Option AV} {L2 : List (Nat × AV)} {St : List AV} {S : SS} : ev c 244 86 [l0, l1, l2, l3, l4, l5, l6, l7] L2 St S = ev c 244 87 [l0, l1, l2, l3, l4, l5, l6, l7] L2 (aI 0 :: St) S := ev_go i244_86 rfl
theorem i244_87 : insAt 244 87 = some (.invokevirtual 83, 3, (245, 3, 2, 12), 409) := rfl
theorem s244_87 {c : Nat → List AV → SS → Option Out} {l0 l1 l2 l3 l4 l5 l6 l7 : Option AV} {a0 : Int32} {a1 : Int32} {a2 : Int32} {j t : Nat} {L2 : List (Nat × AV)} {S : SS} : ev c 244 87 [l0, l1, l2, l3, l4, l5, l6, l7] L2 [aI a2, aI a1, aI a0, aR (12, j, t)] S = ck (c 245 [aR (12, j, t), aI a0, aI a1, aI a2] S) (fun v S' => ev c 244 90 [l0, l1, l2, l3, l4, l5, l6, l7] L2 (v.toList ++ []) S') := ev_call i244_87 rfl
theorem i244_90 : insAt 244 90 = some (.iinc 7 1, 3, (0, 0, 0, 0), 0) := rfl
theorem s244_90 {c : Nat → List AV → SS → Option Out} {l0 l1 l2 l3 l4 l5 l6 : Option AV} {x : Int32} {L2 : List (Nat × AV)} {St : List AV} {S : SS} : ev c 244 90 [l0, l1, l2, l3, l4, l5, l6, some (aI x)] L2 St S = ev c 244 93 [l0, l1, l2, l3, l4, l5, l6, some (aI (x + 1))] (kil L2 7) St S := ev_go i244_90 rfl
theorem i244_93 : insAt 244 93 = some (.goto (-19), 3, (0, 0, 0, 0), 0) := rfl
theorem s244_93 {c : Nat → List AV → SS → Option Out} {l0 l1 l2 l3 l4 l5 l6 l7 : Option AV} {L2 : List (Nat × AV)} {St : List AV} {S : SS} : ev c 244 93 [l0, l1, l2, l3, l4, l5, l6, l7] L2 St S = ev c 244 74 [l0, l1, l2, l3, l4, l5, l6, l7] L2 St S := ev_go i244_93 rfl
theorem i244_96 : insAt 244 96 = some (.aload_n 0, 1, (0, 0, 0, 0), 0) := rfl
theorem s244_96 {c : Nat → List AV → SS → Option Out} {l1 l2 l3 l4 l5 l6 l7 : Option AV} {o : OId} {L2 : List (Nat × AV)} {St : List AV} {S : SS} : ev c 244 96 [some (aR o), l1, l2, l3, l4, l5, l6, l7] L2 St S = ev c 244 97 [some (aR o), l1, l2, l3, l4, l5, l6, l7] L2 (aR o :: St) S := ev_go i244_96 rfl
theorem i244_97 : insAt 244 97 = some (.getfield 7, 3, (12, 0, 0, 0), 364) := rfl
theorem s244_97 {c : Nat → List AV → SS → Option Out} {l0 l1 l2 l3 l4 l5 l6 l7 : Option AV} {j t : Nat} {L2 : List (Nat × AV)} {St : List AV} {S : SS} : ev c 244 97 [l0, l1, l2, l3, l4, l5, l6, l7] L2 (aR (12, j, t) :: St) S = ev c 244 100 [l0, l1, l2, l3, l4, l5, l6, l7] L2 (S.2.2.1 (12, j, t) 0 :: St) S := ev_go i244_97 rfl
theorem i244_100 : insAt 244 100 = some (.bipush 7, 2, (0, 0, 0, 0), 0) := rfl
theorem s244_100 {c : Nat → List AV → SS → Option Out} {l0 l1 l2 l3 l4 l5 l6 l7 : Option AV} {L2 : List (Nat × AV)} {St : List AV} {S : SS} : ev c 244 100 [l0, l1, l2, l3, l4, l5, l6, l7] L2 St S = ev c 244 102 [l0, l1, l2, l3, l4, l5, l6, l7] L2 (aI 7 :: St) S := ev_go i244_100 rfl
theorem i244_102 : insAt 244 102 = some (.dup2, 1, (0, 0, 0, 0), 0) := rfl
theorem s244_102 {c : Nat → List AV → SS → Option Out} {l0 l1 l2 l3 l4 l5 l6 l7 : Option AV} {x : Int32} {y : OId} {L2 : List (Nat × AV)} {St : List AV} {S : SS} : ev c 244 102 [l0, l1, l2, l3, l4, l5, l6, l7] L2 (aI x :: aR y :: St) S = ev c 244 103 [l0, l1, l2, l3, l4, l5, l6, l7] L2 (aI x :: aR y :: aI x :: aR y :: St) S := ev_go i244_102 rfl
theorem i244_103 : insAt 244 103 = some (.iaload, 1, (0, 0, 0, 0), 0) := rfl
theorem s244_103 {c : Nat → List AV → SS → Option Out} {l0 l1 l2 l3 l4 l5 l6 l7 : Option AV} {i : Int32} {o : OId} {L2 : List (Nat × AV)} {St : List AV} {S : SS} : ev c 244 103 [l0, l1, l2, l3, l4, l5, l6, l7] L2 (aI i :: aR o :: St) S = kI o i (ev c 244 104 [l0, l1, l2, l3, l4, l5, l6, l7] L2 (aI (agI S o i.toNatClampNeg) :: St) S) := ev_iaload i244_103
theorem i244_104 : insAt 244 104 = some (.iconst 1, 1, (0, 0, 0, 0), 0) := rfl
theorem s244_104 {c : Nat → List AV → SS → Option Out} {l0 l1 l2 l3 l4 l5 l6 l7 : Option AV} {L2 : List (Nat × AV)} {St : List AV} {S : SS} : ev c 244 104 [l0, l1, l2, l3, l4, l5, l6, l7] L2 St S = ev c 244 105 [l0, l1, l2, l3, l4, l5, l6, l7] L2 (aI 1 :: St) S := ev_go i244_104 rfl
theorem i244_105 : insAt 244 105 = some (.iadd, 1, (0, 0, 0, 0), 0) := rfl
theorem s244_105 {c : Nat → List AV → SS → Option Out} {l0 l1 l2 l3 l4 l5 l6 l7 : Option AV} {x y : Int32} {L2 : List (Nat × AV)} {St : List AV} {S : SS} : ev c 244 105 [l0, l1, l2, l3, l4, l5, l6, l7] L2 (aI y :: aI x :: St) S = ev c 244 106 [l0, l1, l2, l3, l4, l5, l6, l7] L2 (aI (x + y) :: St) S := ev_go i244_105 rfl
theorem i244_106 : insAt 244 106 = some (.iastore, 1, (0, 0, 0, 0), 0) := rfl
theorem s244_106 {c : Nat → List AV → SS → Option Out} {l0 l1 l2 l3 l4 l5 l6 l7 : Option AV} {x i : Int32} {o : OId} {L2 : List (Nat × AV)} {St : List AV} {S : SS} : ev c 244 106 [l0, l1, l2, l3, l4, l5, l6, l7] L2 (aI x :: aI i :: aR o :: St) S = kIw o i (ev c 244 107 [l0, l1, l2, l3, l4, l5, l6, l7] L2 St (setI S.1 o i.toNatClampNeg x, S.2)) := ev_iastore i244_106
theorem i244_107 : insAt 244 107 = some (.aload_n 0, 1, (0, 0, 0, 0), 0) := rfl
theorem s244_107 {c : Nat → List AV → SS → Option Out} {l1 l2 l3 l4 l5 l6 l7 : Option AV} {o : OId} {L2 : List (Nat × AV)} {St : List AV} {S : SS} : ev c 244 107 [some (aR o), l1, l2, l3, l4, l5, l6, l7] L2 St S = ev c 244 108 [some (aR o), l1, l2, l3, l4, l5, l6, l7] L2 (aR o :: St) S := ev_go i244_107 rfl
theorem i244_108 : insAt 244 108 = some (.getfield 7, 3, (12, 0, 0, 0), 364) := rfl
theorem s244_108 {c : Nat → List AV → SS → Option Out} {l0 l1 l2 l3 l4 l5 l6 l7 : Option AV} {j t : Nat} {L2 : List (Nat × AV)} {St : List AV} {S : SS} : ev c 244 108 [l0, l1, l2, l3, l4, l5, l6, l7] L2 (aR (12, j, t) :: St) S = ev c 244 111 [l0, l1, l2, l3, l4, l5, l6, l7] L2 (S.2.2.1 (12, j, t) 0 :: St) S := ev_go i244_108 rfl
theorem i244_111 : insAt 244 111 = some (.iconst 4, 1, (0, 0, 0, 0), 0) := rfl
theorem s244_111 {c : Nat → List AV → SS → Option Out} {l0 l1 l2 l3 l4 l5 l6 l7 : Option AV} {L2 : List (Nat × AV)} {St : List AV} {S : SS} : ev c 244 111 [l0, l1, l2, l3, l4, l5, l6, l7] L2 St S = ev c 244 112 [l0, l1, l2, l3, l4, l5, l6, l7] L2 (aI 4 :: St) S := ev_go i244_111 rfl
theorem i244_112 : insAt 244 112 = some (.dup2, 1, (0, 0, 0, 0), 0) := rfl
theorem s244_112 {c : Nat → List AV → SS → Option Out} {l0 l1 l2 l3 l4 l5 l6 l7 : Option AV} {x : Int32} {y : OId} {L2 : List (Nat × AV)} {St : List AV} {S : SS} : ev c 244 112 [l0, l1, l2, l3, l4, l5, l6, l7] L2 (aI x :: aR y :: St) S = ev c 244 113 [l0, l1, l2, l3, l4, l5, l6, l7] L2 (aI x :: aR y :: aI x :: aR y :: St) S := ev_go i244_112 rfl
theorem i244_113 : insAt 244 113 = some (.iaload, 1, (0, 0, 0, 0), 0) := rfl
theorem s244_113 {c : Nat → List AV → SS → Option Out} {l0 l1 l2 l3 l4 l5 l6 l7 : Option AV} {i : Int32} {o : OId} {L2 : List (Nat × AV)} {St : List AV} {S : SS} : ev c 244 113 [l0, l1, l2, l3, l4, l5, l6, l7] L2 (aI i :: aR o :: St) S = kI o i (ev c 244 114 [l0, l1, l2, l3, l4, l5, l6, l7] L2 (aI (agI S o i.toNatClampNeg) :: St) S) := ev_iaload i244_113
theorem i244_114 : insAt 244 114 = some (.iconst 1, 1, (0, 0, 0, 0), 0) := rfl
theorem s244_114 {c : Nat → List AV → SS → Option Out} {l0 l1 l2 l3 l4 l5 l6 l7 : Option AV} {L2 : List (Nat × AV)} {St : List AV} {S : SS} : ev c 244 114 [l0, l1, l2, l3, l4, l5, l6, l7] L2 St S = ev c 244 115 [l0, l1, l2, l3, l4, l5, l6, l7] L2 (aI 1 :: St) S := ev_go i244_114 rfl
theorem i244_115 : insAt 244 115 = some (.iadd, 1, (0, 0, 0, 0), 0) := rfl
theorem s244_115 {c : Nat → List AV → SS → Option Out} {l0 l1 l2 l3 l4 l5 l6 l7 : Option AV} {x y : Int32} {L2 : List (Nat × AV)} {St : List AV} {S : SS} : ev c 244 115 [l0, l1, l2, l3, l4, l5, l6, l7] L2 (aI y :: aI x :: St) S = ev c 244 116 [l0, l1, l2, l3, l4, l5, l6, l7] L2 (aI (x + y) :: St) S := ev_go i244_115 rfl
theorem i244_116 : insAt 244 116 = some (.iastore, 1, (0, 0, 0, 0), 0) := rfl
theorem s244_116 {c : Nat → List AV → SS → Option Out} {l0 l1 l2 l3 l4 l5 l6 l7 : Option AV} {x i : Int32} {o : OId} {L2 : List (Nat × AV)} {St : List AV} {S : SS} : ev c 244 116 [l0, l1, l2, l3, l4, l5, l6, l7] L2 (aI x :: aI i :: aR o :: St) S = kIw o i (ev c 244 117 [l0, l1, l2, l3, l4, l5, l6, l7] L2 St (setI S.1 o i.toNatClampNeg x, S.2)) := ev_iastore i244_116
theorem i244_117 : insAt 244 117 = some (.aload_n 0, 1, (0, 0, 0, 0), 0) := rfl
theorem s244_117 {c : Nat → List AV → SS → Option Out} {l1 l2 l3 l4 l5 l6 l7 : Option AV} {o : OId} {L2 : List (Nat × AV)} {St : List AV} {S : SS} : ev c 244 117 [some (aR o), l1, l2, l3, l4, l5, l6, l7] L2 St S = ev c 244 118 [some (aR o), l1, l2, l3, l4, l5, l6, l7] L2 (aR o :: St) S := ev_go i244_117 rfl
theorem i244_118 : insAt 244 118 = some (.getfield 7, 3, (12, 0, 0, 0), 364) := rfl
theorem s244_118 {c : Nat → List AV → SS → Option Out} {l0 l1 l2 l3 l4 l5 l6 l7 : Option AV} {j t : Nat} {L2 : List (Nat × AV)} {St : List AV} {S : SS} : ev c 244 118 [l0, l1, l2, l3, l4, l5, l6, l7] L2 (aR (12, j, t) :: St) S = ev c 244 121 [l0, l1, l2, l3, l4, l5, l6, l7] L2 (S.2.2.1 (12, j, t) 0 :: St) S := ev_go i244_118 rfl
theorem i244_121 : insAt 244 121 = some (.iconst 4, 1, (0, 0, 0, 0), 0) := rfl
theorem s244_121 {c : Nat → List AV → SS → Option Out} {l0 l1 l2 l3 l4 l5 l6 l7 : Option AV} {L2 : List (Nat × AV)} {St : List AV} {S : SS} : ev c 244 121 [l0, l1, l2, l3, l4, l5, l6, l7] L2 St S = ev c 244 122 [l0, l1, l2, l3, l4, l5, l6, l7] L2 (aI 4 :: St) S := ev_go i244_121 rfl
theorem i244_122 : insAt 244 122 = some (.iaload, 1, (0, 0, 0, 0), 0) := rfl
theorem s244_122 {c : Nat → List AV → SS → Option Out} {l0 l1 l2 l3 l4 l5 l6 l7 : Option AV} {i : Int32} {o : OId} {L2 : List (Nat × AV)} {St : List AV} {S : SS} : ev c 244 122 [l0, l1, l2, l3, l4, l5, l6, l7] L2 (aI i :: aR o :: St) S = kI o i (ev c 244 123 [l0, l1, l2, l3, l4, l5, l6, l7] L2 (aI (agI S o i.toNatClampNeg) :: St) S) := ev_iaload i244_122
theorem i244_123 : insAt 244 123 = some (.iconst 1, 1, (0, 0, 0, 0), 0) := rfl
theorem s244_123 {c : Nat → List AV → SS → Option Out} {l0 l1 l2 l3 l4 l5 l6 l7 : Option AV} {L2 : List (Nat × AV)} {St : List AV} {S : SS} : ev c 244 123 [l0, l1, l2, l3, l4, l5, l6, l7] L2 St S = ev c 244 124 [l0, l1, l2, l3, l4, l5, l6, l7] L2 (aI 1 :: St) S := ev_go i244_123 rfl
theorem i244_124 : insAt 244 124 = some (.isub, 1, (0, 0, 0, 0), 0) := rfl
theorem s244_124 {c : Nat → List AV → SS → Option Out} {l0 l1 l2 l3 l4 l5 l6 l7 : Option AV} {x y : Int32} {L2 : List (Nat × AV)} {St : List AV} {S : SS} : ev c 244 124 [l0, l1, l2, l3, l4, l5, l6, l7] L2 (aI y :: aI x :: St) S = ev c 244 125 [l0, l1, l2, l3, l4, l5, l6, l7] L2 (aI (x - y) :: St) S := ev_go i244_124 rfl
theorem i244_125 : insAt 244 125 = some (.ireturn, 1, (0, 0, 0, 0), 0) := rfl
theorem s244_125 {c : Nat → List AV → SS → Option Out} {l0 l1 l2 l3 l4 l5 l6 l7 : Option AV} {x : Int32} {L2 : List (Nat × AV)} {S : SS} : ev c 244 125 [l0, l1, l2, l3, l4, l5, l6, l7] L2 [aI x] S = some (.inl (some (aI x)), S) := ev_end i244_125 rfl
theorem m244 {d : Nat} {o : OId} {a0 : Int32} {a1 : Int32} {a2 : Int32} {a3 : Int32} {a4 : Int32} {S : SS} : evm (d + 1) 244 [aR o, aI a0, aI a1, aI a2, aI a3, aI a4] S = ev (evm d) 244 0 [some (aR o), some (aI a0), some (aI a1), some (aI a2), some (aI a3), some (aI a4), none, none] [] [] S := evm_s (n := 8) rfl (Nat.le_of_ble_eq_true rfl) rfl rfl
/-! FrequencyOfficeModel.laysComplaints(III)V -/
theorem i245_0 : insAt 245 0 = some (.aload_n 0, 1, (0, 0, 0, 0), 0) := rfl
theorem s245_0 {c : Nat → List AV → SS → Option Out} {l1 l2 l3 : Option AV} {o : OId} {L2 : List (Nat × AV)} {St : List AV} {S : SS} : ev c 245 0 [some (aR o), l1, l2, l3] L2 St S = ev c 245 1 [some (aR o), l1, l2, l3] L2 (aR o :: St) S := ev_go i245_0 rfl
theorem i245_1 : insAt 245 1 = some (.getfield 7, 3, (12, 0, 0, 0), 364) := rfl
theorem s245_1 {c : Nat → List AV → SS → Option Out} {l0 l1 l2 l3 : Option AV} {j t : Nat} {L2 : List (Nat × AV)} {St : List AV} {S : SS} : ev c 245 1 [l0, l1, l2, l3] L2 (aR (12, j, t) :: St) S = ev c 245 4 [l0, l1, l2, l3] L2 (S.2.2.1 (12, j, t) 0 :: St) S := ev_go i245_1 rfl
theorem i245_4 : insAt 245 4 = some (.bipush 57, 2, (0, 0, 0, 0), 0) := rfl
theorem s245_4 {c : Nat → List AV → SS → Option Out} {l0 l1 l2 l3 : Option AV} {L2 : List (Nat × AV)} {St : List AV} {S : SS} : ev c 245 4 [l0, l1, l2, l3] L2 St S = ev c 245 6 [l0, l1, l2, l3] L2 (aI 57 :: St) S := ev_go i245_4 rfl
theorem i245_6 : insAt 245 6 = some (.bipush 7, 2, (0, 0, 0, 0), 0) := rfl
theorem s245_6 {c : Nat → List AV → SS → Option Out} {l0 l1 l2 l3 : Option AV} {L2 : List (Nat × AV)} {St : List AV} {S : SS} : ev c 245 6 [l0, l1, l2, l3] L2 St S = ev c 245 8 [l0, l1, l2, l3] L2 (aI 7 :: St) S := ev_go i245_6 rfl
theorem i245_8 : insAt 245 8 = some (.iload_n 1, 1, (0, 0, 0, 0), 0) := rfl
theorem s245_8 {c : Nat → List AV → SS → Option Out} {l0 l2 l3 : Option AV} {x : Int32} {L2 : List (Nat × AV)} {St : List AV} {S : SS} : ev c 245 8 [l0, some (aI x), l2, l3] L2 St S = ev c 245 9 [l0, some (aI x), l2, l3] L2 (aI x :: St) S := ev_go i245_8 rfl
theorem i245_9 : insAt 245 9 = some (.imul, 1, (0, 0, 0, 0), 0) := rfl
theorem s245_9 {c : Nat → List AV → SS → Option Out} {l0 l1 l2 l3 : Option AV} {x y : Int32} {L2 : List (Nat × AV)} {St : List AV} {S : SS} : ev c 245 9 [l0, l1, l2, l3] L2 (aI y :: aI x :: St) S = ev c 245 10 [l0, l1, l2, l3] L2 (aI (x * y) :: St) S := ev_go i245_9 rfl
theorem i245_10 : insAt 245 10 = some (.iadd, 1, (0, 0, 0, 0), 0) := rfl
theorem s245_10 {c : Nat → List AV → SS → Option Out} {l0 l1 l2 l3 : Option AV} {x y : Int32} {L2 : List (Nat × AV)} {St : List AV} {S : SS} : ev c 245 10 [l0, l1, l2, l3] L2 (aI y :: aI x :: St) S = ev c 245 11 [l0, l1, l2, l3] L2 (aI (x + y) :: St) S := ev_go i245_10 rfl
theorem i245_11 : insAt 245 11 = some (.iload_n 2, 1, (0, 0, 0, 0), 0) := rfl
theorem s245_11 {c : Nat → List AV → SS → Option Out} {l0 l1 l3 : Option AV} {x : Int32} {L2 : List (Nat × AV)} {St : List AV} {S : SS} : ev c 245 11 [l0, l1, some (aI x), l3] L2 St S = ev c 245 12 [l0, l1, some (aI x), l3] L2 (aI x :: St) S := ev_go i245_11 rfl
theorem i245_12 : insAt 245 12 = some (.iadd, 1, (0, 0, 0, 0), 0) := rfl
theorem s245_12 {c : Nat → List AV → SS → Option Out} {l0 l1 l2 l3 : Option AV} {x y : Int32} {L2 : List (Nat × AV)} {St : List AV} {S : SS} : ev c 245 12 [l0, l1, l2, l3] L2 (aI y :: aI x :: St) S = ev c 245 13 [l0, l1, l2, l3] L2 (aI (x + y) :: St) S := ev_go i245_12 rfl
theorem i245_13 : insAt 245 13 = some (.iload_n 3, 1, (0, 0, 0, 0), 0) := rfl
theorem s245_13 {c : Nat → List AV → SS → Option Out} {l0 l1 l2 : Option AV} {x : Int32} {L2 : List (Nat × AV)} {St : List AV} {S : SS} : ev c 245 13 [l0, l1, l2, some (aI x)] L2 St S = ev c 245 14 [l0, l1, l2, some (aI x)] L2 (aI x :: St) S := ev_go i245_13 rfl
theorem i245_14 : insAt 245 14 = some (.iastore, 1, (0, 0, 0, 0), 0) := rfl
theorem s245_14 {c : Nat → List AV → SS → Option Out} {l0 l1 l2 l3 : Option AV} {x i : Int32} {o : OId} {L2 : List (Nat × AV)} {St : List AV} {S : SS} : ev c 245 14 [l0, l1, l2, l3] L2 (aI x :: aI i :: aR o :: St) S = kIw o i (ev c 245 15 [l0, l1, l2, l3] L2 St (setI S.1 o i.toNatClampNeg x, S.2)) := ev_iastore i245_14
theorem i245_15 : insAt 245 15 = some (.aload_n 0, 1, (0, 0, 0, 0), 0) := rfl
theorem s245_15 {c : Nat → List AV → SS → Option Out} {l1 l2 l3 : Option AV} {o : OId} {L2 : List (Nat × AV)} {St : List AV} {S : SS} : ev c 245 15 [some (aR o), l1, l2, l3] L2 St S = ev c 245 16 [some (aR o), l1, l2, l3] L2 (aR o :: St) S := ev_go i245_15 rfl
theorem i245_16 : insAt 245 16 = some (.getfield 7, 3, (12, 0, 0, 0), 364) := rfl
theorem s245_16 {c : Nat → List AV → SS → Option Out} {l0 l1 l2 l3 : Option AV} {j t : Nat} {L2 : List (Nat × AV)} {St : List AV} {S : SS} : ev c 245 16 [l0, l1, l2, l3] L2 (aR (12, j, t) :: St) S = ev c 245 19 [l0, l1, l2, l3] L2 (S.2.2.1 (12, j, t) 0 :: St) S := ev_go i245_16 rfl
theorem i245_19 : insAt 245 19 = some (.bipush 57, 2, (0, 0, 0, 0), 0) := rfl
theorem s245_19 {c : Nat → List AV → SS → Option Out} {l0 l1 l2 l3 : Option AV} {L2 : List (Nat × AV)} {St : List AV} {S : SS} : ev c 245 19 [l0, l1, l2, l3] L2 St S = ev c 245 21 [l0, l1, l2, l3] L2 (aI 57 :: St) S := ev_go i245_19 rfl
theorem i245_21 : insAt 245 21 = some (.bipush 7, 2, (0, 0, 0, 0), 0) := rfl
theorem s245_21 {c : Nat → List AV → SS → Option Out} {l0 l1 l2 l3 : Option AV} {L2 : List (Nat × AV)} {St : List AV} {S : SS} : ev c 245 21 [l0, l1, l2, l3] L2 St S = ev c 245 23 [l0, l1, l2, l3] L2 (aI 7 :: St) S := ev_go i245_21 rfl
theorem i245_23 : insAt 245 23 = some (.iload_n 2, 1, (0, 0, 0, 0), 0) := rfl
theorem s245_23 {c : Nat → List AV → SS → Option Out} {l0 l1 l3 : Option AV} {x : Int32} {L2 : List (Nat × AV)} {St : List AV} {S : SS} : ev c 245 23 [l0, l1, some (aI x), l3] L2 St S = ev c 245 24 [l0, l1, some (aI x), l3] L2 (aI x :: St) S := ev_go i245_23 rfl
theorem i245_24 : insAt 245 24 = some (.imul, 1, (0, 0, 0, 0), 0) := rfl
theorem s245_24 {c : Nat → List AV → SS → Option Out} {l0 l1 l2 l3 : Option AV} {x y : Int32} {L2 : List (Nat × AV)} {St : List AV} {S : SS} : ev c 245 24 [l0, l1, l2, l3] L2 (aI y :: aI x :: St) S = ev c 245 25 [l0, l1, l2, l3] L2 (aI (x * y) :: St) S := ev_go i245_24 rfl
theorem i245_25 : insAt 245 25 = some (.iadd, 1, (0, 0, 0, 0), 0) := rfl
theorem s245_25 {c : Nat → List AV → SS → Option Out} {l0 l1 l2 l3 : Option AV} {x y : Int32} {L2 : List (Nat × AV)} {St : List AV} {S : SS} : ev c 245 25 [l0, l1, l2, l3] L2 (aI y :: aI x :: St) S = ev c 245 26 [l0, l1, l2, l3] L2 (aI (x + y) :: St) S := ev_go i245_25 rfl
theorem i245_26 : insAt 245 26 = some (.iload_n 1, 1, (0, 0, 0, 0), 0) := rfl
theorem s245_26 {c : Nat → List AV → SS → Option Out} {l0 l2 l3 : Option AV} {x : Int32} {L2 : List (Nat × AV)} {St : List AV} {S : SS} : ev c 245 26 [l0, some (aI x), l2, l3] L2 St S = ev c 245 27 [l0, some (aI x), l2, l3] L2 (aI x :: St) S := ev_go i245_26 rfl
theorem i245_27 : insAt 245 27 = some (.iadd, 1, (0, 0, 0, 0), 0) := rfl
theorem s245_27 {c : Nat → List AV → SS → Option Out} {l0 l1 l2 l3 : Option AV} {x y : Int32} {L2 : List (Nat × AV)} {St : List AV} {S : SS} : ev c 245 27 [l0, l1, l2, l3] L2 (aI y :: aI x :: St) S = ev c 245 28 [l0, l1, l2, l3] L2 (aI (x + y) :: St) S := ev_go i245_27 rfl
theorem i245_28 : insAt 245 28 = some (.iload_n 3, 1, (0, 0, 0, 0), 0) := rfl
theorem s245_28 {c : Nat → List AV → SS → Option Out} {l0 l1 l2 : Option AV} {x : Int32} {L2 : List (Nat × AV)} {St : List AV} {S : SS} : ev c 245 28 [l0, l1, l2, some (aI x)] L2 St S = ev c 245 29 [l0, l1, l2, some (aI x)] L2 (aI x :: St) S := ev_go i245_28 rfl
theorem i245_29 : insAt 245 29 = some (.iastore, 1, (0, 0, 0, 0), 0) := rfl
theorem s245_29 {c : Nat → List AV → SS → Option Out} {l0 l1 l2 l3 : Option AV} {x i : Int32} {o : OId} {L2 : List (Nat × AV)} {St : List AV} {S : SS} : ev c 245 29 [l0, l1, l2, l3] L2 (aI x :: aI i :: aR o :: St) S = kIw o i (ev c 245 30 [l0, l1, l2, l3] L2 St (setI S.1 o i.toNatClampNeg x, S.2)) := ev_iastore i245_29
theorem i245_30 : insAt 245 30 = some (.return_, 1, (0, 0, 0, 0), 0) := rfl
theorem s245_30 {c : Nat → List AV → SS → Option Out} {l0 l1 l2 l3 : Option AV} {L2 : List (Nat × AV)} {S : SS} : ev c 245 30 [l0, l1, l2, l3] L2 [] S = some (.inl none, S) := ev_end i245_30 rfl
theorem m245 {d : Nat} {o : OId} {a0 : Int32} {a1 : Int32} {a2 : Int32} {S : SS} : evm (d + 1) 245 [aR o, aI a0, aI a1, aI a2] S = ev (evm d) 245 0 [some (aR o), some (aI a0), some (aI a1), some (aI a2)] [] [] S := evm_s (n := 4) rfl (Nat.le_of_ble_eq_true rfl) rfl rfl
/-! FrequencyOfficeModel.endsTrials()V -/
theorem i246_0 : insAt 246 0 = some (.aload_n 0, 1, (0, 0, 0, 0), 0) := rfl
theorem s246_0 {c : Nat → List AV → SS → Option Out} {l1 : Option AV} {o : OId} {L2 : List (Nat × AV)} {St : List AV} {S : SS} : ev c 246 0 [some (aR o), l1] L2 St S = ev c 246 1 [some (aR o), l1] L2 (aR o :: St) S := ev_go i246_0 rfl
theorem i246_1 : insAt 246 1 = some (.getfield 7, 3, (12, 0, 0, 0), 364) := rfl
theorem s246_1 {c : Nat → List AV → SS → Option Out} {l0 l1 : Option AV} {j t : Nat} {L2 : List (Nat × AV)} {St : List AV} {S : SS} : ev c 246 1 [l0, l1] L2 (aR (12, j, t) :: St) S = ev c 246 4 [l0, l1] L2 (S.2.2.1 (12, j, t) 0 :: St) S := ev_go i246_1 rfl
theorem i246_4 : insAt 246 4 = some (.bipush 7, 2, (0, 0, 0, 0), 0) := rfl
theorem s246_4 {c : Nat → List AV → SS → Option Out} {l0 l1 : Option AV} {L2 : List (Nat × AV)} {St : List AV} {S : SS} : ev c 246 4 [l0, l1] L2 St S = ev c 246 6 [l0, l1] L2 (aI 7 :: St) S := ev_go i246_4 rfl
theorem i246_6 : insAt 246 6 = some (.iaload, 1, (0, 0, 0, 0), 0) := rfl
theorem s246_6 {c : Nat → List AV → SS → Option Out} {l0 l1 : Option AV} {i : Int32} {o : OId} {L2 : List (Nat × AV)} {St : List AV} {S : SS} : ev c 246 6 [l0, l1] L2 (aI i :: aR o :: St) S = kI o i (ev c 246 7 [l0, l1] L2 (aI (agI S o i.toNatClampNeg) :: St) S) := ev_iaload i246_6
theorem i246_7 : insAt 246 7 = some (.iconst 1, 1, (0, 0, 0, 0), 0) := rfl
theorem s246_7 {c : Nat → List AV → SS → Option Out} {l0 l1 : Option AV} {L2 : List (Nat × AV)} {St : List AV} {S : SS} : ev c 246 7 [l0, l1] L2 St S = ev c 246 8 [l0, l1] L2 (aI 1 :: St) S := ev_go i246_7 rfl
theorem i246_8 : insAt 246 8 = some (.isub, 1, (0, 0, 0, 0), 0) := rfl
theorem s246_8 {c : Nat → List AV → SS → Option Out} {l0 l1 : Option AV} {x y : Int32} {L2 : List (Nat × AV)} {St : List AV} {S : SS} : ev c 246 8 [l0, l1] L2 (aI y :: aI x :: St) S = ev c 246 9 [l0, l1] L2 (aI (x - y) :: St) S := ev_go i246_8 rfl
theorem i246_9 : insAt 246 9 = some (.istore_n 1, 1, (0, 0, 0, 0), 0) := rfl
theorem s246_9 {c : Nat → List AV → SS → Option Out} {l0 l1 : Option AV} {x : Int32} {L2 : List (Nat × AV)} {St : List AV} {S : SS} : ev c 246 9 [l0, l1] L2 (aI x :: St) S = ev c 246 10 [l0, some (aI x)] (kil L2 1) St S := ev_go i246_9 rfl
theorem i246_10 : insAt 246 10 = some (.iload_n 1, 1, (0, 0, 0, 0), 0) := rfl
theorem s246_10 {c : Nat → List AV → SS → Option Out} {l0 : Option AV} {x : Int32} {L2 : List (Nat × AV)} {St : List AV} {S : SS} : ev c 246 10 [l0, some (aI x)] L2 St S = ev c 246 11 [l0, some (aI x)] L2 (aI x :: St) S := ev_go i246_10 rfl
theorem i246_11 : insAt 246 11 = some (.ifCond .lt 44, 3, (0, 0, 0, 0), 0) := rfl
theorem s246_11 {c : Nat → List AV → SS → Option Out} {l0 l1 : Option AV} {x : Int32} {L2 : List (Nat × AV)} {St : List AV} {S : SS} : ev c 246 11 [l0, l1] L2 (aI x :: St) S = if x < 0 then ev c 246 55 [l0, l1] L2 St S else ev c 246 14 [l0, l1] L2 St S := ev_br i246_11 rfl
theorem i246_14 : insAt 246 14 = some (.aload_n 0, 1, (0, 0, 0, 0), 0) := rfl
theorem s246_14 {c : Nat → List AV → SS → Option Out} {l1 : Option AV} {o : OId} {L2 : List (Nat × AV)} {St : List AV} {S : SS} : ev c 246 14 [some (aR o), l1] L2 St S = ev c 246 15 [some (aR o), l1] L2 (aR o :: St) S := ev_go i246_14 rfl
theorem i246_15 : insAt 246 15 = some (.iload_n 1, 1, (0, 0, 0, 0), 0) := rfl
theorem s246_15 {c : Nat → List AV → SS → Option Out} {l0 : Option AV} {x : Int32} {L2 : List (Nat × AV)} {St : List AV} {S : SS} : ev c 246 15 [l0, some (aI x)] L2 St S = ev c 246 16 [l0, some (aI x)] L2 (aI x :: St) S := ev_go i246_15 rfl
theorem i246_16 : insAt 246 16 = some (.invokevirtual 115, 3, (230, 1, 2, 12), 400) := rfl
theorem s246_16 {c : Nat → List AV → SS → Option Out} {l0 l1 : Option AV} {a0 : Int32} {j t : Nat} {L2 : List (Nat × AV)} {S : SS} : ev c 246 16 [l0, l1] L2 [aI a0, aR (12, j, t)] S = ck (c 230 [aR (12, j, t), aI a0] S) (fun v S' => ev c 246 19 [l0, l1] L2 (v.toList ++ []) S') := ev_call i246_16 rfl
theorem i246_19 : insAt 246 19 = some (.ifCond .ne 30, 3, (0, 0, 0, 0), 0) := rfl
theorem s246_19 {c : Nat → List AV → SS → Option Out} {l0 l1 : Option AV} {x : Int32} {L2 : List (Nat × AV)} {St : List AV} {S : SS} : ev c 246 19 [l0, l1] L2 (aI x :: St) S = if x = 0 then ev c 246 22 [l0, l1] L2 St S else ev c 246 49 [l0, l1] L2 St S := (ev_br i246_19 rfl).trans (ite_not _ _ _)
theorem i246_22 : insAt 246 22 = some (.aload_n 0, 1, (0, 0, 0, 0), 0) := rfl
theorem s246_22 {c : Nat → List AV → SS → Option Out} {l1 : Option AV} {o : OId} {L2 : List (Nat × AV)} {St : List AV} {S : SS} : ev c 246 22 [some (aR o), l1] L2 St S = ev c 246 23 [some (aR o), l1] L2 (aR o :: St) S := ev_go i246_22 rfl
theorem i246_23 : insAt 246 23 = some (.iload_n 1, 1, (0, 0, 0, 0), 0) := rfl
theorem s246_23 {c : Nat → List AV → SS → Option Out} {l0 : Option AV} {x : Int32} {L2 : List (Nat × AV)} {St : List AV} {S : SS} : ev c 246 23 [l0, some (aI x)] L2 St S = ev c 246 24 [l0, some (aI x)] L2 (aI x :: St) S := ev_go i246_23 rfl
theorem i246_24 : insAt 246 24 = some (.invokevirtual 147, 3, (247, 1, 2, 12), 410) := rfl
theorem s246_24 {c : Nat → List AV → SS → Option Out} {l0 l1 : Option AV} {a0 : Int32} {j t : Nat} {L2 : List (Nat × AV)} {S : SS} : ev c 246 24 [l0, l1] L2 [aI a0, aR (12, j, t)] S = ck (c 247 [aR (12, j, t), aI a0] S) (fun v S' => ev c 246 27 [l0, l1] L2 (v.toList ++ []) S') := ev_call i246_24 rfl
theorem i246_27 : insAt 246 27 = some (.ifCond .ne 6, 3, (0, 0, 0, 0), 0) := rfl
theorem s246_27 {c : Nat → List AV → SS → Option Out} {l0 l1 : Option AV} {x : Int32} {L2 : List (Nat × AV)} {St : List AV} {S : SS} : ev c 246 27 [l0, l1] L2 (aI x :: St) S = if x = 0 then ev c 246 30 [l0, l1] L2 St S else ev c 246 33 [l0, l1] L2 St S := (ev_br i246_27 rfl).trans (ite_not _ _ _)
theorem i246_30 : insAt 246 30 = some (.goto 19, 3, (0, 0, 0, 0), 0) := rfl
theorem s246_30 {c : Nat → List AV → SS → Option Out} {l0 l1 : Option AV} {L2 : List (Nat × AV)} {St : List AV} {S : SS} : ev c 246 30 [l0, l1] L2 St S = ev c 246 49 [l0, l1] L2 St S := ev_go i246_30 rfl
theorem i246_33 : insAt 246 33 = some (.aload_n 0, 1, (0, 0, 0, 0), 0) := rfl
theorem s246_33 {c : Nat → List AV → SS → Option Out} {l1 : Option AV} {o : OId} {L2 : List (Nat × AV)} {St : List AV} {S : SS} : ev c 246 33 [some (aR o), l1] L2 St S = ev c 246 34 [some (aR o), l1] L2 (aR o :: St) S := ev_go i246_33 rfl
theorem i246_34 : insAt 246 34 = some (.iload_n 1, 1, (0, 0, 0, 0), 0) := rfl
theorem s246_34 {c : Nat → List AV → SS → Option Out} {l0 : Option AV} {x : Int32} {L2 : List (Nat × AV)} {St : List AV} {S : SS} : ev c 246 34 [l0, some (aI x)] L2 St S = ev c 246 35 [l0, some (aI x)] L2 (aI x :: St) S := ev_go i246_34 rfl
theorem i246_35 : insAt 246 35 = some (.invokevirtual 150, 3, (249, 1, 2, 12), 411) := rfl
theorem s246_35 {c : Nat → List AV → SS → Option Out} {l0 l1 : Option AV} {a0 : Int32} {j t : Nat} {L2 : List (Nat × AV)} {S : SS} : ev c 246 35 [l0, l1] L2 [aI a0, aR (12, j, t)] S = ck (c 249 [aR (12, j, t), aI a0] S) (fun v S' => ev c 246 38 [l0, l1] L2 (v.toList ++ []) S') := ev_call i246_35 rfl
theorem i246_38 : insAt 246 38 = some (.aload_n 0, 1, (0, 0, 0, 0), 0) := rfl
theorem s246_38 {c : Nat → List AV → SS → Option Out} {l1 : Option AV} {o : OId} {L2 : List (Nat × AV)} {St : List AV} {S : SS} : ev c 246 38 [some (aR o), l1] L2 St S = ev c 246 39 [some (aR o), l1] L2 (aR o :: St) S := ev_go i246_38 rfl
theorem i246_39 : insAt 246 39 = some (.getfield 7, 3, (12, 0, 0, 0), 364) := rfl
theorem s246_39 {c : Nat → List AV → SS → Option Out} {l0 l1 : Option AV} {j t : Nat} {L2 : List (Nat × AV)} {St : List AV} {S : SS} : ev c 246 39 [l0, l1] L2 (aR (12, j, t) :: St) S = ev c 246 42 [l0, l1] L2 (S.2.2.1 (12, j, t) 0 :: St) S := ev_go i246_39 rfl
theorem i246_42 : insAt 246 42 = some (.bipush 6, 2, (0, 0, 0, 0), 0) := rfl
theorem s246_42 {c : Nat → List AV → SS → Option Out} {l0 l1 : Option AV} {L2 : List (Nat × AV)} {St : List AV} {S : SS} : ev c 246 42 [l0, l1] L2 St S = ev c 246 44 [l0, l1] L2 (aI 6 :: St) S := ev_go i246_42 rfl
theorem i246_44 : insAt 246 44 = some (.dup2, 1, (0, 0, 0, 0), 0) := rfl
theorem s246_44 {c : Nat → List AV → SS → Option Out} {l0 l1 : Option AV} {x : Int32} {y : OId} {L2 : List (Nat × AV)} {St : List AV} {S : SS} : ev c 246 44 [l0, l1] L2 (aI x :: aR y :: St) S = ev c 246 45 [l0, l1] L2 (aI x :: aR y :: aI x :: aR y :: St) S := ev_go i246_44 rfl
theorem i246_45 : insAt 246 45 = some (.iaload, 1, (0, 0, 0, 0), 0) := rfl
theorem s246_45 {c : Nat → List AV → SS → Option Out} {l0 l1 : Option AV} {i : Int32} {o : OId} {L2 : List (Nat × AV)} {St : List AV} {S : SS} : ev c 246 45 [l0, l1] L2 (aI i :: aR o :: St) S = kI o i (ev c 246 46 [l0, l1] L2 (aI (agI S o i.toNatClampNeg) :: St) S) := ev_iaload i246_45
theorem i246_46 : insAt 246 46 = some (.iconst 1, 1, (0, 0, 0, 0), 0) := rfl
theorem s246_46 {c : Nat → List AV → SS → Option Out} {l0 l1 : Option AV} {L2 : List (Nat × AV)} {St : List AV} {S : SS} : ev c 246 46 [l0, l1] L2 St S = ev c 246 47 [l0, l1] L2 (aI 1 :: St) S := ev_go i246_46 rfl
theorem i246_47 : insAt 246 47 = some (.iadd, 1, (0, 0, 0, 0), 0) := rfl
theorem s246_47 {c : Nat → List AV → SS → Option Out} {l0 l1 : Option AV} {x y : Int32} {L2 : List (Nat × AV)} {St : List AV} {S : SS} : ev c 246 47 [l0, l1] L2 (aI y :: aI x :: St) S = ev c 246 48 [l0, l1] L2 (aI (x + y) :: St) S := ev_go i246_47 rfl
theorem i246_48 : insAt 246 48 = some (.iastore, 1, (0, 0, 0, 0), 0) := rfl
theorem s246_48 {c : Nat → List AV → SS → Option Out} {l0 l1 : Option AV} {x i : Int32} {o : OId} {L2 : List (Nat × AV)} {St : List AV} {S : SS} : ev c 246 48 [l0, l1] L2 (aI x :: aI i :: aR o :: St) S = kIw o i (ev c 246 49 [l0, l1] L2 St (setI S.1 o i.toNatClampNeg x, S.2)) := ev_iastore i246_48
theorem i246_49 : insAt 246 49 = some (.iinc 1 (-1), 3, (0, 0, 0, 0), 0) := rfl
theorem s246_49 {c : Nat → List AV → SS → Option Out} {l0 : Option AV} {x : Int32} {L2 : List (Nat × AV)} {St : List AV} {S : SS} : ev c 246 49 [l0, some (aI x)] L2 St S = ev c 246 52 [l0, some (aI (x + (-1)))] (kil L2 1) St S := ev_go i246_49 rfl
theorem i246_52 : insAt 246 52 = some (.goto (-42), 3, (0, 0, 0, 0), 0) := rfl
theorem s246_52 {c : Nat → List AV → SS → Option Out} {l0 l1 : Option AV} {L2 : List (Nat × AV)} {St : List AV} {S : SS} : ev c 246 52 [l0, l1] L2 St S = ev c 246 10 [l0, l1] L2 St S := ev_go i246_52 rfl
theorem i246_55 : insAt 246 55 = some (.return_, 1, (0, 0, 0, 0), 0) := rfl
theorem s246_55 {c : Nat → List AV → SS → Option Out} {l0 l1 : Option AV} {L2 : List (Nat × AV)} {S : SS} : ev c 246 55 [l0, l1] L2 [] S = some (.inl none, S) := ev_end i246_55 rfl
theorem m246 {d : Nat} {o : OId} {S : SS} : evm (d + 1) 246 [aR o] S = ev (evm d) 246 0 [some (aR o), none] [] [] S := evm_s (n := 2) rfl (Nat.le_of_ble_eq_true rfl) rfl rfl
/-! FrequencyOfficeModel.isInTheWay(I)Z -/
theorem i247_0 : insAt 247 0 = some (.iconst 0, 1, (0, 0, 0, 0), 0) := rfl
theorem s247_0 {c : Nat → List AV → SS → Option Out} {l0 l1 l2 : Option AV} {L2 : List (Nat × AV)} {St : List AV} {S : SS} : ev c 247 0 [l0, l1, l2] L2 St S = ev c 247 1 [l0, l1, l2] L2 (aI 0 :: St) S := ev_go i247_0 rfl
theorem i247_1 : insAt 247 1 = some (.istore_n 2, 1, (0, 0, 0, 0), 0) := rfl
theorem s247_1 {c : Nat → List AV → SS → Option Out} {l0 l1 l2 : Option AV} {x : Int32} {L2 : List (Nat × AV)} {St : List AV} {S : SS} : ev c 247 1 [l0, l1, l2] L2 (aI x :: St) S = ev c 247 2 [l0, l1, some (aI x)] (kil L2 2) St S := ev_go i247_1 rfl
theorem i247_2 : insAt 247 2 = some (.iload_n 2, 1, (0, 0, 0, 0), 0) := rfl
theorem s247_2 {c : Nat → List AV → SS → Option Out} {l0 l1 : Option AV} {x : Int32} {L2 : List (Nat × AV)} {St : List AV} {S : SS} : ev c 247 2 [l0, l1, some (aI x)] L2 St S = ev c 247 3 [l0, l1, some (aI x)] L2 (aI x :: St) S := ev_go i247_2 rfl
theorem i247_3 : insAt 247 3 = some (.aload_n 0, 1, (0, 0, 0, 0), 0) := rfl
theorem s247_3 {c : Nat → List AV → SS → Option Out} {l1 l2 : Option AV} {o : OId} {L2 : List (Nat × AV)} {St : List AV} {S : SS} : ev c 247 3 [some (aR o), l1, l2] L2 St S = ev c 247 4 [some (aR o), l1, l2] L2 (aR o :: St) S := ev_go i247_3 rfl
theorem i247_4 : insAt 247 4 = some (.getfield 7, 3, (12, 0, 0, 0), 364) := rfl
theorem s247_4 {c : Nat → List AV → SS → Option Out} {l0 l1 l2 : Option AV} {j t : Nat} {L2 : List (Nat × AV)} {St : List AV} {S : SS} : ev c 247 4 [l0, l1, l2] L2 (aR (12, j, t) :: St) S = ev c 247 7 [l0, l1, l2] L2 (S.2.2.1 (12, j, t) 0 :: St) S := ev_go i247_4 rfl
theorem i247_7 : insAt 247 7 = some (.bipush 7, 2, (0, 0, 0, 0), 0) := rfl
theorem s247_7 {c : Nat → List AV → SS → Option Out} {l0 l1 l2 : Option AV} {L2 : List (Nat × AV)} {St : List AV} {S : SS} : ev c 247 7 [l0, l1, l2] L2 St S = ev c 247 9 [l0, l1, l2] L2 (aI 7 :: St) S := ev_go i247_7 rfl
theorem i247_9 : insAt 247 9 = some (.iaload, 1, (0, 0, 0, 0), 0) := rfl
theorem s247_9 {c : Nat → List AV → SS → Option Out} {l0 l1 l2 : Option AV} {i : Int32} {o : OId} {L2 : List (Nat × AV)} {St : List AV} {S : SS} : ev c 247 9 [l0, l1, l2] L2 (aI i :: aR o :: St) S = kI o i (ev c 247 10 [l0, l1, l2] L2 (aI (agI S o i.toNatClampNeg) :: St) S) := ev_iaload i247_9
theorem i247_10 : insAt 247 10 = some (.if_icmp .ge 33, 3, (0, 0, 0, 0), 0) := rfl
theorem s247_10 {c : Nat → List AV → SS → Option Out} {l0 l1 l2 : Option AV} {x y : Int32} {L2 : List (Nat × AV)} {St : List AV} {S : SS} : ev c 247 10 [l0, l1, l2] L2 (aI y :: aI x :: St) S = if y ≤ x then ev c 247 43 [l0, l1, l2] L2 St S else ev c 247 13 [l0, l1, l2] L2 St S := ev_br i247_10 rfl
theorem i247_13 : insAt 247 13 = some (.iload_n 2, 1, (0, 0, 0, 0), 0) := rfl
theorem s247_13 {c : Nat → List AV → SS → Option Out} {l0 l1 : Option AV} {x : Int32} {L2 : List (Nat × AV)} {St : List AV} {S : SS} : ev c 247 13 [l0, l1, some (aI x)] L2 St S = ev c 247 14 [l0, l1, some (aI x)] L2 (aI x :: St) S := ev_go i247_13 rfl
theorem i247_14 : insAt 247 14 = some (.iload_n 1, 1, (0, 0, 0, 0), 0) := rfl
theorem s247_14 {c : Nat → List AV → SS → Option Out} {l0 l2 : Option AV} {x : Int32} {L2 : List (Nat × AV)} {St : List AV} {S : SS} : ev c 247 14 [l0, some (aI x), l2] L2 St S = ev c 247 15 [l0, some (aI x), l2] L2 (aI x :: St) S := ev_go i247_14 rfl
theorem i247_15 : insAt 247 15 = some (.if_icmp .eq 22, 3, (0, 0, 0, 0), 0) := rfl
theorem s247_15 {c : Nat → List AV → SS → Option Out} {l0 l1 l2 : Option AV} {x y : Int32} {L2 : List (Nat × AV)} {St : List AV} {S : SS} : ev c 247 15 [l0, l1, l2] L2 (aI y :: aI x :: St) S = if x = y then ev c 247 37 [l0, l1, l2] L2 St S else ev c 247 18 [l0, l1, l2] L2 St S := ev_br i247_15 rfl
theorem i247_18 : insAt 247 18 = some (.aload_n 0, 1, (0, 0, 0, 0), 0) := rfl
theorem s247_18 {c : Nat → List AV → SS → Option Out} {l1 l2 : Option AV} {o : OId} {L2 : List (Nat × AV)} {St : List AV} {S : SS} : ev c 247 18 [some (aR o), l1, l2] L2 St S = ev c 247 19 [some (aR o), l1, l2] L2 (aR o :: St) S := ev_go i247_18 rfl
theorem i247_19 : insAt 247 19 = some (.iload_n 2, 1, (0, 0, 0, 0), 0) := rfl
theorem s247_19 {c : Nat → List AV → SS → Option Out} {l0 l1 : Option AV} {x : Int32} {L2 : List (Nat × AV)} {St : List AV} {S : SS} : ev c 247 19 [l0, l1, some (aI x)] L2 St S = ev c 247 20 [l0, l1, some (aI x)] L2 (aI x :: St) S := ev_go i247_19 rfl
theorem i247_20 : insAt 247 20 = some (.invokevirtual 115, 3, (230, 1, 2, 12), 400) := rfl
theorem s247_20 {c : Nat → List AV → SS → Option Out} {l0 l1 l2 : Option AV} {a0 : Int32} {j t : Nat} {L2 : List (Nat × AV)} {S : SS} : ev c 247 20 [l0, l1, l2] L2 [aI a0, aR (12, j, t)] S = ck (c 230 [aR (12, j, t), aI a0] S) (fun v S' => ev c 247 23 [l0, l1, l2] L2 (v.toList ++ []) S') := ev_call i247_20 rfl
theorem i247_23 : insAt 247 23 = some (.ifCond .eq 14, 3, (0, 0, 0, 0), 0) := rfl
theorem s247_23 {c : Nat → List AV → SS → Option Out} {l0 l1 l2 : Option AV} {x : Int32} {L2 : List (Nat × AV)} {St : List AV} {S : SS} : ev c 247 23 [l0, l1, l2] L2 (aI x :: St) S = if x = 0 then ev c 247 37 [l0, l1, l2] L2 St S else ev c 247 26 [l0, l1, l2] L2 St S := ev_br i247_23 rfl
theorem i247_26 : insAt 247 26 = some (.aload_n 0, 1, (0, 0, 0, 0), 0) := rfl
theorem s247_26 {c : Nat → List AV → SS → Option Out} {l1 l2 : Option AV} {o : OId} {L2 : List (Nat × AV)} {St : List AV} {S : SS} : ev c 247 26 [some (aR o), l1, l2] L2 St S = ev c 247 27 [some (aR o), l1, l2] L2 (aR o :: St) S := ev_go i247_26 rfl
theorem i247_27 : insAt 247 27 = some (.iload_n 1, 1, (0, 0, 0, 0), 0) := rfl
theorem s247_27 {c : Nat → List AV → SS → Option Out} {l0 l2 : Option AV} {x : Int32} {L2 : List (Nat × AV)} {St : List AV} {S : SS} : ev c 247 27 [l0, some (aI x), l2] L2 St S = ev c 247 28 [l0, some (aI x), l2] L2 (aI x :: St) S := ev_go i247_27 rfl
theorem i247_28 : insAt 247 28 = some (.iload_n 2, 1, (0, 0, 0, 0), 0) := rfl
theorem s247_28 {c : Nat → List AV → SS → Option Out} {l0 l1 : Option AV} {x : Int32} {L2 : List (Nat × AV)} {St : List AV} {S : SS} : ev c 247 28 [l0, l1, some (aI x)] L2 St S = ev c 247 29 [l0, l1, some (aI x)] L2 (aI x :: St) S := ev_go i247_28 rfl
theorem i247_29 : insAt 247 29 = some (.invokevirtual 144, 3, (248, 2, 2, 12), 412) := rfl
theorem s247_29 {c : Nat → List AV → SS → Option Out} {l0 l1 l2 : Option AV} {a0 : Int32} {a1 : Int32} {j t : Nat} {L2 : List (Nat × AV)} {S : SS} : ev c 247 29 [l0, l1, l2] L2 [aI a1, aI a0, aR (12, j, t)] S = ck (c 248 [aR (12, j, t), aI a0, aI a1] S) (fun v S' => ev c 247 32 [l0, l1, l2] L2 (v.toList ++ []) S') := ev_call i247_29 rfl
theorem i247_32 : insAt 247 32 = some (.ifCond .eq 5, 3, (0, 0, 0, 0), 0) := rfl
theorem s247_32 {c : Nat → List AV → SS → Option Out} {l0 l1 l2 : Option AV} {x : Int32} {L2 : List (Nat × AV)} {St : List AV} {S : SS} : ev c 247 32 [l0, l1, l2] L2 (aI x :: St) S = if x = 0 then ev c 247 37 [l0, l1, l2] L2 St S else ev c 247 35 [l0, l1, l2] L2 St S := ev_br i247_32 rfl
theorem i247_35 : insAt 247 35 = some (.iconst 1, 1, (0, 0, 0, 0), 0) := rfl
theorem s247_35 {c : Nat → List AV → SS → Option Out} {l0 l1 l2 : Option AV} {L2 : List (Nat × AV)} {St : List AV} {S : SS} : ev c 247 35 [l0, l1, l2] L2 St S = ev c 247 36 [l0, l1, l2] L2 (aI 1 :: St) S := ev_go i247_35 rfl
theorem i247_36 : insAt 247 36 = some (.ireturn, 1, (0, 0, 0, 0), 0) := rfl
theorem s247_36 {c : Nat → List AV → SS → Option Out} {l0 l1 l2 : Option AV} {x : Int32} {L2 : List (Nat × AV)} {S : SS} : ev c 247 36 [l0, l1, l2] L2 [aI x] S = if x = 0 ∨ x = 1 then some (.inl (some (aI x)), S) else none := ev_rt i247_36 rfl
theorem i247_37 : insAt 247 37 = some (.iinc 2 1, 3, (0, 0, 0, 0), 0) := rfl
theorem s247_37 {c : Nat → List AV → SS → Option Out} {l0 l1 : Option AV} {x : Int32} {L2 : List (Nat × AV)} {St : List AV} {S : SS} : ev c 247 37 [l0, l1, some (aI x)] L2 St S = ev c 247 40 [l0, l1, some (aI (x + 1))] (kil L2 2) St S := ev_go i247_37 rfl
theorem i247_40 : insAt 247 40 = some (.goto (-38), 3, (0, 0, 0, 0), 0) := rfl
theorem s247_40 {c : Nat → List AV → SS → Option Out} {l0 l1 l2 : Option AV} {L2 : List (Nat × AV)} {St : List AV} {S : SS} : ev c 247 40 [l0, l1, l2] L2 St S = ev c 247 2 [l0, l1, l2] L2 St S := ev_go i247_40 rfl
theorem i247_43 : insAt 247 43 = some (.iconst 0, 1, (0, 0, 0, 0), 0) := rfl
theorem s247_43 {c : Nat → List AV → SS → Option Out} {l0 l1 l2 : Option AV} {L2 : List (Nat × AV)} {St : List AV} {S : SS} : ev c 247 43 [l0, l1, l2] L2 St S = ev c 247 44 [l0, l1, l2] L2 (aI 0 :: St) S := ev_go i247_43 rfl
theorem i247_44 : insAt 247 44 = some (.ireturn, 1, (0, 0, 0, 0), 0) := rfl
theorem s247_44 {c : Nat → List AV → SS → Option Out} {l0 l1 l2 : Option AV} {x : Int32} {L2 : List (Nat × AV)} {S : SS} : ev c 247 44 [l0, l1, l2] L2 [aI x] S = if x = 0 ∨ x = 1 then some (.inl (some (aI x)), S) else none := ev_rt i247_44 rfl
theorem m247 {d : Nat} {o : OId} {a0 : Int32} {S : SS} : evm (d + 1) 247 [aR o, aI a0] S = ev (evm d) 247 0 [some (aR o), some (aI a0), none] [] [] S := evm_s (n := 3) rfl (Nat.le_of_ble_eq_true rfl) rfl rfl
/-! FrequencyOfficeModel.conflict(II)Z -/
theorem i248_0 : insAt 248 0 = some (.aload_n 0, 1, (0, 0, 0, 0), 0) := rfl
theorem s248_0 {c : Nat → List AV → SS → Option Out} {l1 l2 : Option AV} {o : OId} {L2 : List (Nat × AV)} {St : List AV} {S : SS} : ev c 248 0 [some (aR o), l1, l2] L2 St S = ev c 248 1 [some (aR o), l1, l2] L2 (aR o :: St) S := ev_go i248_0 rfl
theorem i248_1 : insAt 248 1 = some (.iload_n 1, 1, (0, 0, 0, 0), 0) := rfl
theorem s248_1 {c : Nat → List AV → SS → Option Out} {l0 l2 : Option AV} {x : Int32} {L2 : List (Nat × AV)} {St : List AV} {S : SS} : ev c 248 1 [l0, some (aI x), l2] L2 St S = ev c 248 2 [l0, some (aI x), l2] L2 (aI x :: St) S := ev_go i248_1 rfl
theorem i248_2 : insAt 248 2 = some (.iconst 3, 1, (0, 0, 0, 0), 0) := rfl
theorem s248_2 {c : Nat → List AV → SS → Option Out} {l0 l1 l2 : Option AV} {L2 : List (Nat × AV)} {St : List AV} {S : SS} : ev c 248 2 [l0, l1, l2] L2 St S = ev c 248 3 [l0, l1, l2] L2 (aI 3 :: St) S := ev_go i248_2 rfl
theorem i248_3 : insAt 248 3 = some (.invokevirtual 75, 3, (231, 2, 2, 12), 396) := rfl
theorem s248_3 {c : Nat → List AV → SS → Option Out} {l0 l1 l2 : Option AV} {a0 : Int32} {a1 : Int32} {j t : Nat} {L2 : List (Nat × AV)} {S : SS} : ev c 248 3 [l0, l1, l2] L2 [aI a1, aI a0, aR (12, j, t)] S = ck (c 231 [aR (12, j, t), aI a0, aI a1] S) (fun v S' => ev c 248 6 [l0, l1, l2] L2 (v.toList ++ []) S') := ev_call i248_3 rfl
theorem i248_6 : insAt 248 6 = some (.aload_n 0, 1, (0, 0, 0, 0), 0) := rfl
theorem s248_6 {c : Nat → List AV → SS → Option Out} {l1 l2 : Option AV} {o : OId} {L2 : List (Nat × AV)} {St : List AV} {S : SS} : ev c 248 6 [some (aR o), l1, l2] L2 St S = ev c 248 7 [some (aR o), l1, l2] L2 (aR o :: St) S := ev_go i248_6 rfl
theorem i248_7 : insAt 248 7 = some (.iload_n 2, 1, (0, 0, 0, 0), 0) := rfl
theorem s248_7 {c : Nat → List AV → SS → Option Out} {l0 l1 : Option AV} {x : Int32} {L2 : List (Nat × AV)} {St : List AV} {S : SS} : ev c 248 7 [l0, l1, some (aI x)] L2 St S = ev c 248 8 [l0, l1, some (aI x)] L2 (aI x :: St) S := ev_go i248_7 rfl
theorem i248_8 : insAt 248 8 = some (.iconst 3, 1, (0, 0, 0, 0), 0) := rfl
theorem s248_8 {c : Nat → List AV → SS → Option Out} {l0 l1 l2 : Option AV} {L2 : List (Nat × AV)} {St : List AV} {S : SS} : ev c 248 8 [l0, l1, l2] L2 St S = ev c 248 9 [l0, l1, l2] L2 (aI 3 :: St) S := ev_go i248_8 rfl
theorem i248_9 : insAt 248 9 = some (.invokevirtual 75, 3, (231, 2, 2, 12), 396) := rfl
theorem s248_9 {c : Nat → List AV → SS → Option Out} {l0 l1 l2 : Option AV} {t0 : AV} {a0 : Int32} {a1 : Int32} {j t : Nat} {L2 : List (Nat × AV)} {S : SS} : ev c 248 9 [l0, l1, l2] L2 [aI a1, aI a0, aR (12, j, t), t0] S = ck (c 231 [aR (12, j, t), aI a0, aI a1] S) (fun v S' => ev c 248 12 [l0, l1, l2] L2 (v.toList ++ [t0]) S') := ev_call i248_9 rfl
theorem i248_12 : insAt 248 12 = some (.isub, 1, (0, 0, 0, 0), 0) := rfl
theorem s248_12 {c : Nat → List AV → SS → Option Out} {l0 l1 l2 : Option AV} {x y : Int32} {L2 : List (Nat × AV)} {St : List AV} {S : SS} : ev c 248 12 [l0, l1, l2] L2 (aI y :: aI x :: St) S = ev c 248 13 [l0, l1, l2] L2 (aI (x - y) :: St) S := ev_go i248_12 rfl
theorem i248_13 : insAt 248 13 = some (.invokestatic 109, 3, (232, 1, 0, 0), 401) := rfl
theorem s248_13 {c : Nat → List AV → SS → Option Out} {l0 l1 l2 : Option AV} {a0 : Int32} {L2 : List (Nat × AV)} {S : SS} : ev c 248 13 [l0, l1, l2] L2 [aI a0] S = ck (c 232 [aI a0] S) (fun v S' => ev c 248 16 [l0, l1, l2] L2 (v.toList ++ []) S') := ev_call i248_13 rfl
theorem i248_16 : insAt 248 16 = some (.aload_n 0, 1, (0, 0, 0, 0), 0) := rfl
theorem s248_16 {c : Nat → List AV → SS → Option Out} {l1 l2 : Option AV} {o : OId} {L2 : List (Nat × AV)} {St : List AV} {S : SS} : ev c 248 16 [some (aR o), l1, l2] L2 St S = ev c 248 17 [some (aR o), l1, l2] L2 (aR o :: St) S := ev_go i248_16 rfl
theorem i248_17 : insAt 248 17 = some (.iload_n 1, 1, (0, 0, 0, 0), 0) := rfl
theorem s248_17 {c : Nat → List AV → SS → Option Out} {l0 l2 : Option AV} {x : Int32} {L2 : List (Nat × AV)} {St : List AV} {S : SS} : ev c 248 17 [l0, some (aI x), l2] L2 St S = ev c 248 18 [l0, some (aI x), l2] L2 (aI x :: St) S := ev_go i248_17 rfl
theorem i248_18 : insAt 248 18 = some (.iload_n 2, 1, (0, 0, 0, 0), 0) := rfl
theorem s248_18 {c : Nat → List AV → SS → Option Out} {l0 l1 : Option AV} {x : Int32} {L2 : List (Nat × AV)} {St : List AV} {S : SS} : ev c 248 18 [l0, l1, some (aI x)] L2 St S = ev c 248 19 [l0, l1, some (aI x)] L2 (aI x :: St) S := ev_go i248_18 rfl
theorem i248_19 : insAt 248 19 = some (.invokevirtual 112, 3, (240, 2, 2, 12), 407) := rfl
theorem s248_19 {c : Nat → List AV → SS → Option Out} {l0 l1 l2 : Option AV} {t0 : AV} {a0 : Int32} {a1 : Int32} {j t : Nat} {L2 : List (Nat × AV)} {S : SS} : ev c 248 19 [l0, l1, l2] L2 [aI a1, aI a0, aR (12, j, t), t0] S = ck (c 240 [aR (12, j, t), aI a0, aI a1] S) (fun v S' => ev c 248 22 [l0, l1, l2] L2 (v.toList ++ [t0]) S') := ev_call i248_19 rfl
theorem i248_22 : insAt 248 22 = some (.if_icmp .ge 7, 3, (0, 0, 0, 0), 0) := rfl
theorem s248_22 {c : Nat → List AV → SS → Option Out} {l0 l1 l2 : Option AV} {x y : Int32} {L2 : List (Nat × AV)} {St : List AV} {S : SS} : ev c 248 22 [l0, l1, l2] L2 (aI y :: aI x :: St) S = if y ≤ x then ev c 248 29 [l0, l1, l2] L2 St S else ev c 248 25 [l0, l1, l2] L2 St S := ev_br i248_22 rfl
theorem i248_25 : insAt 248 25 = some (.iconst 1, 1, (0, 0, 0, 0), 0) := rfl
theorem s248_25 {c : Nat → List AV → SS → Option Out} {l0 l1 l2 : Option AV} {L2 : List (Nat × AV)} {St : List AV} {S : SS} : ev c 248 25 [l0, l1, l2] L2 St S = ev c 248 26 [l0, l1, l2] L2 (aI 1 :: St) S := ev_go i248_25 rfl
theorem i248_26 : insAt 248 26 = some (.goto 4, 3, (0, 0, 0, 0), 0) := rfl
theorem s248_26 {c : Nat → List AV → SS → Option Out} {l0 l1 l2 : Option AV} {L2 : List (Nat × AV)} {St : List AV} {S : SS} : ev c 248 26 [l0, l1, l2] L2 St S = ev c 248 30 [l0, l1, l2] L2 St S := ev_go i248_26 rfl
theorem i248_29 : insAt 248 29 = some (.iconst 0, 1, (0, 0, 0, 0), 0) := rfl
theorem s248_29 {c : Nat → List AV → SS → Option Out} {l0 l1 l2 : Option AV} {L2 : List (Nat × AV)} {St : List AV} {S : SS} : ev c 248 29 [l0, l1, l2] L2 St S = ev c 248 30 [l0, l1, l2] L2 (aI 0 :: St) S := ev_go i248_29 rfl
theorem i248_30 : insAt 248 30 = some (.ireturn, 1, (0, 0, 0, 0), 0) := rfl
theorem s248_30 {c : Nat → List AV → SS → Option Out} {l0 l1 l2 : Option AV} {x : Int32} {L2 : List (Nat × AV)} {S : SS} : ev c 248 30 [l0, l1, l2] L2 [aI x] S = if x = 0 ∨ x = 1 then some (.inl (some (aI x)), S) else none := ev_rt i248_30 rfl
theorem m248 {d : Nat} {o : OId} {a0 : Int32} {a1 : Int32} {S : SS} : evm (d + 1) 248 [aR o, aI a0, aI a1] S = ev (evm d) 248 0 [some (aR o), some (aI a0), some (aI a1)] [] [] S := evm_s (n := 3) rfl (Nat.le_of_ble_eq_true rfl) rfl rfl
/-! FrequencyOfficeModel.takesOut(I)V -/
theorem i249_0 : insAt 249 0 = some (.aload_n 0, 1, (0, 0, 0, 0), 0) := rfl
theorem s249_0 {c : Nat → List AV → SS → Option Out} {l1 l2 l3 : Option AV} {o : OId} {L2 : List (Nat × AV)} {St : List AV} {S : SS} : ev c 249 0 [some (aR o), l1, l2, l3] L2 St S = ev c 249 1 [some (aR o), l1, l2, l3] L2 (aR o :: St) S := ev_go i249_0 rfl
theorem i249_1 : insAt 249 1 = some (.getfield 7, 3, (12, 0, 0, 0), 364) := rfl
theorem s249_1 {c : Nat → List AV → SS → Option Out} {l0 l1 l2 l3 : Option AV} {j t : Nat} {L2 : List (Nat × AV)} {St : List AV} {S : SS} : ev c 249 1 [l0, l1, l2, l3] L2 (aR (12, j, t) :: St) S = ev c 249 4 [l0, l1, l2, l3] L2 (S.2.2.1 (12, j, t) 0 :: St) S := ev_go i249_1 rfl
theorem i249_4 : insAt 249 4 = some (.bipush 7, 2, (0, 0, 0, 0), 0) := rfl
theorem s249_4 {c : Nat → List AV → SS → Option Out} {l0 l1 l2 l3 : Option AV} {L2 : List (Nat × AV)} {St : List AV} {S : SS} : ev c 249 4 [l0, l1, l2, l3] L2 St S = ev c 249 6 [l0, l1, l2, l3] L2 (aI 7 :: St) S := ev_go i249_4 rfl
theorem i249_6 : insAt 249 6 = some (.dup2, 1, (0, 0, 0, 0), 0) := rfl
theorem s249_6 {c : Nat → List AV → SS → Option Out} {l0 l1 l2 l3 : Option AV} {x : Int32} {y : OId} {L2 : List (Nat × AV)} {St : List AV} {S : SS} : ev c 249 6 [l0, l1, l2, l3] L2 (aI x :: aR y :: St) S = ev c 249 7 [l0, l1, l2, l3] L2 (aI x :: aR y :: aI x :: aR y :: St) S := ev_go i249_6 rfl
theorem i249_7 : insAt 249 7 = some (.iaload, 1, (0, 0, 0, 0), 0) := rfl
theorem s249_7 {c : Nat → List AV → SS → Option Out} {l0 l1 l2 l3 : Option AV} {i : Int32} {o : OId} {L2 : List (Nat × AV)} {St : List AV} {S : SS} : ev c 249 7 [l0, l1, l2, l3] L2 (aI i :: aR o :: St) S = kI o i (ev c 249 8 [l0, l1, l2, l3] L2 (aI (agI S o i.toNatClampNeg) :: St) S) := ev_iaload i249_7
theorem i249_8 : insAt 249 8 = some (.iconst 1, 1, (0, 0, 0, 0), 0) := rfl
theorem s249_8 {c : Nat → List AV → SS → Option Out} {l0 l1 l2 l3 : Option AV} {L2 : List (Nat × AV)} {St : List AV} {S : SS} : ev c 249 8 [l0, l1, l2, l3] L2 St S = ev c 249 9 [l0, l1, l2, l3] L2 (aI 1 :: St) S := ev_go i249_8 rfl
theorem i249_9 : insAt 249 9 = some (.isub, 1, (0, 0, 0, 0), 0) := rfl
theorem s249_9 {c : Nat → List AV → SS → Option Out} {l0 l1 l2 l3 : Option AV} {x y : Int32} {L2 : List (Nat × AV)} {St : List AV} {S : SS} : ev c 249 9 [l0, l1, l2, l3] L2 (aI y :: aI x :: St) S = ev c 249 10 [l0, l1, l2, l3] L2 (aI (x - y) :: St) S := ev_go i249_9 rfl
theorem i249_10 : insAt 249 10 = some (.iastore, 1, (0, 0, 0, 0), 0) := rfl
theorem s249_10 {c : Nat → List AV → SS → Option Out} {l0 l1 l2 l3 : Option AV} {x i : Int32} {o : OId} {L2 : List (Nat × AV)} {St : List AV} {S : SS} : ev c 249 10 [l0, l1, l2, l3] L2 (aI x :: aI i :: aR o :: St) S = kIw o i (ev c 249 11 [l0, l1, l2, l3] L2 St (setI S.1 o i.toNatClampNeg x, S.2)) := ev_iastore i249_10
theorem i249_11 : insAt 249 11 = some (.iload_n 1, 1, (0, 0, 0, 0), 0) := rfl
theorem s249_11 {c : Nat → List AV → SS → Option Out} {l0 l2 l3 : Option AV} {x : Int32} {L2 : List (Nat × AV)} {St : List AV} {S : SS} : ev c 249 11 [l0, some (aI x), l2, l3] L2 St S = ev c 249 12 [l0, some (aI x), l2, l3] L2 (aI x :: St) S := ev_go i249_11 rfl
theorem i249_12 : insAt 249 12 = some (.istore_n 2, 1, (0, 0, 0, 0), 0) := rfl
theorem s249_12 {c : Nat → List AV → SS → Option Out} {l0 l1 l2 l3 : Option AV} {x : Int32} {L2 : List (Nat × AV)} {St : List AV} {S : SS} : ev c 249 12 [l0, l1, l2, l3] L2 (aI x :: St) S = ev c 249 13 [l0, l1, some (aI x), l3] (kil L2 2) St S := ev_go i249_12 rfl
theorem i249_13 : insAt 249 13 = some (.iload_n 2, 1, (0, 0, 0, 0), 0) := rfl
theorem s249_13 {c : Nat → List AV → SS → Option Out} {l0 l1 l3 : Option AV} {x : Int32} {L2 : List (Nat × AV)} {St : List AV} {S : SS} : ev c 249 13 [l0, l1, some (aI x), l3] L2 St S = ev c 249 14 [l0, l1, some (aI x), l3] L2 (aI x :: St) S := ev_go i249_13 rfl
theorem i249_14 : insAt 249 14 = some (.aload_n 0, 1, (0, 0, 0, 0), 0) := rfl
theorem s249_14 {c : Nat → List AV → SS → Option Out} {l1 l2 l3 : Option AV} {o : OId} {L2 : List (Nat × AV)} {St : List AV} {S : SS} : ev c 249 14 [some (aR o), l1, l2, l3] L2 St S = ev c 249 15 [some (aR o), l1, l2, l3] L2 (aR o :: St) S := ev_go i249_14 rfl
theorem i249_15 : insAt 249 15 = some (.getfield 7, 3, (12, 0, 0, 0), 364) := rfl
theorem s249_15 {c : Nat → List AV → SS → Option Out} {l0 l1 l2 l3 : Option AV} {j t : Nat} {L2 : List (Nat × AV)} {St : List AV} {S : SS} : ev c 249 15 [l0, l1, l2, l3] L2 (aR (12, j, t) :: St) S = ev c 249 18 [l0, l1, l2, l3] L2 (S.2.2.1 (12, j, t) 0 :: St) S := ev_go i249_15 rfl
theorem i249_18 : insAt 249 18 = some (.bipush 7, 2, (0, 0, 0, 0), 0) := rfl
theorem s249_18 {c : Nat → List AV → SS → Option Out} {l0 l1 l2 l3 : Option AV} {L2 : List (Nat × AV)} {St : List AV} {S : SS} : ev c 249 18 [l0, l1, l2, l3] L2 St S = ev c 249 20 [l0, l1, l2, l3] L2 (aI 7 :: St) S := ev_go i249_18 rfl
theorem i249_20 : insAt 249 20 = some (.iaload, 1, (0, 0, 0, 0), 0) := rfl
theorem s249_20 {c : Nat → List AV → SS → Option Out} {l0 l1 l2 l3 : Option AV} {i : Int32} {o : OId} {L2 : List (Nat × AV)} {St : List AV} {S : SS} : ev c 249 20 [l0, l1, l2, l3] L2 (aI i :: aR o :: St) S = kI o i (ev c 249 21 [l0, l1, l2, l3] L2 (aI (agI S o i.toNatClampNeg) :: St) S) := ev_iaload i249_20
theorem i249_21 : insAt 249 21 = some (.if_icmp .ge 82, 3, (0, 0, 0, 0), 0) := rfl
theorem s249_21 {c : Nat → List AV → SS → Option Out} {l0 l1 l2 l3 : Option AV} {x y : Int32} {L2 : List (Nat × AV)} {St : List AV} {S : SS} : ev c 249 21 [l0, l1, l2, l3] L2 (aI y :: aI x :: St) S = if y ≤ x then ev c 249 103 [l0, l1, l2, l3] L2 St S else ev c 249 24 [l0, l1, l2, l3] L2 St S := ev_br i249_21 rfl
theorem i249_24 : insAt 249 24 = some (.iconst 0, 1, (0, 0, 0, 0), 0) := rfl
theorem s249_24 {c : Nat → List AV → SS → Option Out} {l0 l1 l2 l3 : Option AV} {L2 : List (Nat × AV)} {St : List AV} {S : SS} : ev c 249 24 [l0, l1, l2, l3] L2 St S = ev c 249 25 [l0, l1, l2, l3] L2 (aI 0 :: St) S := ev_go i249_24 rfl
theorem i249_25 : insAt 249 25 = some (.istore_n 3, 1, (0, 0, 0, 0), 0) := rfl
theorem s249_25 {c : Nat → List AV → SS → Option Out} {l0 l1 l2 l3 : Option AV} {x : Int32} {L2 : List (Nat × AV)} {St : List AV} {S : SS} : ev c 249 25 [l0, l1, l2, l3] L2 (aI x :: St) S = ev c 249 26 [l0, l1, l2, some (aI x)] (kil L2 3) St S := ev_go i249_25 rfl
theorem i249_26 : insAt 249 26 = some (.iload_n 3, 1, (0, 0, 0, 0), 0) := rfl
theorem s249_26 {c : Nat → List AV → SS → Option Out} {l0 l1 l2 : Option AV} {x : Int32} {L2 : List (Nat × AV)} {St : List AV} {S : SS} : ev c 249 26 [l0, l1, l2, some (aI x)] L2 St S = ev c 249 27 [l0, l1, l2, some (aI x)] L2 (aI x :: St) S := ev_go i249_26 rfl
theorem i249_27 : insAt 249 27 = some (.bipush 6, 2, (0, 0, 0, 0), 0) := rfl
theorem s249_27 {c : Nat → List AV → SS → Option Out} {l0 l1 l2 l3 : Option AV} {L2 : List (Nat × AV)} {St : List AV} {S : SS} : ev c 249 27 [l0, l1, l2, l3] L2 St S = ev c 249 29 [l0, l1, l2, l3] L2 (aI 6 :: St) S := ev_go i249_27 rfl
theorem i249_29 : insAt 249 29 = some (.if_icmp .ge 23, 3, (0, 0, 0, 0), 0) := rfl
theorem s249_29 {c : Nat → List AV → SS → Option Out} {l0 l1 l2 l3 : Option AV} {x y : Int32} {L2 : List (Nat × AV)} {St : List AV} {S : SS} : ev c 249 29 [l0, l1, l2, l3] L2 (aI y :: aI x :: St) S = if y ≤ x then ev c 249 52 [l0, l1, l2, l3] L2 St S else ev c 249 32 [l0, l1, l2, l3] L2 St S := ev_br i249_29 rfl
theorem i249_32 : insAt 249 32 = some (.aload_n 0, 1, (0, 0, 0, 0), 0) := rfl
theorem s249_32 {c : Nat → List AV → SS → Option Out} {l1 l2 l3 : Option AV} {o : OId} {L2 : List (Nat × AV)} {St : List AV} {S : SS} : ev c 249 32 [some (aR o), l1, l2, l3] L2 St S = ev c 249 33 [some (aR o), l1, l2, l3] L2 (aR o :: St) S := ev_go i249_32 rfl
theorem i249_33 : insAt 249 33 = some (.iload_n 2, 1, (0, 0, 0, 0), 0) := rfl
theorem s249_33 {c : Nat → List AV → SS → Option Out} {l0 l1 l3 : Option AV} {x : Int32} {L2 : List (Nat × AV)} {St : List AV} {S : SS} : ev c 249 33 [l0, l1, some (aI x), l3] L2 St S = ev c 249 34 [l0, l1, some (aI x), l3] L2 (aI x :: St) S := ev_go i249_33 rfl
theorem i249_34 : insAt 249 34 = some (.iload_n 3, 1, (0, 0, 0, 0), 0) := rfl
theorem s249_34 {c : Nat → List AV → SS → Option Out} {l0 l1 l2 : Option AV} {x : Int32} {L2 : List (Nat × AV)} {St : List AV} {S : SS} : ev c 249 34 [l0, l1, l2, some (aI x)] L2 St S = ev c 249 35 [l0, l1, l2, some (aI x)] L2 (aI x :: St) S := ev_go i249_34 rfl
theorem i249_35 : insAt 249 35 = some (.aload_n 0, 1, (0, 0, 0, 0), 0) := rfl
theorem s249_35 {c : Nat → List AV → SS → Option Out} {l1 l2 l3 : Option AV} {o : OId} {L2 : List (Nat × AV)} {St : List AV} {S : SS} : ev c 249 35 [some (aR o), l1, l2, l3] L2 St S = ev c 249 36 [some (aR o), l1, l2, l3] L2 (aR o :: St) S := ev_go i249_35 rfl
theorem i249_36 : insAt 249 36 = some (.iload_n 2, 1, (0, 0, 0, 0), 0) := rfl
theorem s249_36 {c : Nat → List AV → SS → Option Out} {l0 l1 l3 : Option AV} {x : Int32} {L2 : List (Nat × AV)} {St : List AV} {S : SS} : ev c 249 36 [l0, l1, some (aI x), l3] L2 St S = ev c 249 37 [l0, l1, some (aI x), l3] L2 (aI x :: St) S := ev_go i249_36 rfl
theorem i249_37 : insAt 249 37 = some (.iconst 1, 1, (0, 0, 0, 0), 0) := rfl
theorem s249_37 {c : Nat → List AV → SS → Option Out} {l0 l1 l2 l3 : Option AV} {L2 : List (Nat × AV)} {St : List AV} {S : SS} : ev c 249 37 [l0, l1, l2, l3] L2 St S = ev c 249 38 [l0, l1, l2, l3] L2 (aI 1 :: St) S := ev_go i249_37 rfl
theorem i249_38 : insAt 249 38 = some (.iadd, 1, (0, 0, 0, 0), 0) := rfl
theorem s249_38 {c : Nat → List AV → SS → Option Out} {l0 l1 l2 l3 : Option AV} {x y : Int32} {L2 : List (Nat × AV)} {St : List AV} {S : SS} : ev c 249 38 [l0, l1, l2, l3] L2 (aI y :: aI x :: St) S = ev c 249 39 [l0, l1, l2, l3] L2 (aI (x + y) :: St) S := ev_go i249_38 rfl
theorem i249_39 : insAt 249 39 = some (.iload_n 3, 1, (0, 0, 0, 0), 0) := rfl
theorem s249_39 {c : Nat → List AV → SS → Option Out} {l0 l1 l2 : Option AV} {x : Int32} {L2 : List (Nat × AV)} {St : List AV} {S : SS} : ev c 249 39 [l0, l1, l2, some (aI x)] L2 St S = ev c 249 40 [l0, l1, l2, some (aI x)] L2 (aI x :: St) S := ev_go i249_39 rfl
theorem i249_40 : insAt 249 40 = some (.invokevirtual 75, 3, (231, 2, 2, 12), 396) := rfl
theorem s249_40 {c : Nat → List AV → SS → Option Out} {l0 l1 l2 l3 : Option AV} {t0 t1 t2 : AV} {a0 : Int32} {a1 : Int32} {j t : Nat} {L2 : List (Nat × AV)} {S : SS} : ev c 249 40 [l0, l1, l2, l3] L2 [aI a1, aI a0, aR (12, j, t), t0, t1, t2] S = ck (c 231 [aR (12, j, t), aI a0, aI a1] S) (fun v S' => ev c 249 43 [l0, l1, l2, l3] L2 (v.toList ++ [t0, t1, t2]) S') := ev_call i249_40 rfl
theorem i249_43 : insAt 249 43 = some (.invokevirtual 79, 3, (242, 3, 2, 12), 397) := rfl
theorem s249_43 {c : Nat → List AV → SS → Option Out} {l0 l1 l2 l3 : Option AV} {a0 : Int32} {a1 : Int32} {a2 : Int32} {j t : Nat} {L2 : List (Nat × AV)} {S : SS} : ev c 249 43 [l0, l1, l2, l3] L2 [aI a2, aI a1, aI a0, aR (12, j, t)] S = ck (c 242 [aR (12, j, t), aI a0, aI a1, aI a2] S) (fun v S' => ev c 249 46 [l0, l1, l2, l3] L2 (v.toList ++ []) S') := ev_call i249_43 rfl
theorem i249_46 : insAt 249 46 = some (.iinc 3 1, 3, (0, 0, 0, 0), 0) := rfl
theorem s249_46 {c : Nat → List AV → SS → Option Out} {l0 l1 l2 : Option AV} {x : Int32} {L2 : List (Nat × AV)} {St : List AV} {S : SS} : ev c 249 46 [l0, l1, l2, some (aI x)] L2 St S = ev c 249 49 [l0, l1, l2, some (aI (x + 1))] (kil L2 3) St S := ev_go i249_46 rfl
theorem i249_49 : insAt 249 49 = some (.goto (-23), 3, (0, 0, 0, 0), 0) := rfl
theorem s249_49 {c : Nat → List AV → SS → Option Out} {l0 l1 l2 l3 : Option AV} {L2 : List (Nat × AV)} {St : List AV} {S : SS} : ev c 249 49 [l0, l1, l2, l3] L2 St S = ev c 249 26 [l0, l1, l2, l3] L2 St S := ev_go i249_49 rfl
theorem i249_52 : insAt 249 52 = some (.iconst 0, 1, (0, 0, 0, 0), 0) := rfl
theorem s249_52 {c : Nat → List AV → SS → Option Out} {l0 l1 l2 l3 : Option AV} {L2 : List (Nat × AV)} {St : List AV} {S : SS} : ev c 249 52 [l0, l1, l2, l3] L2 St S = ev c 249 53 [l0, l1, l2, l3] L2 (aI 0 :: St) S := ev_go i249_52 rfl
theorem i249_53 : insAt 249 53 = some (.istore_n 3, 1, (0, 0, 0, 0), 0) := rfl
theorem s249_53 {c : Nat → List AV → SS → Option Out} {l0 l1 l2 l3 : Option AV} {x : Int32} {L2 : List (Nat × AV)} {St : List AV} {S : SS} : ev c 249 53 [l0, l1, l2, l3] L2 (aI x :: St) S = ev c 249 54 [l0, l1, l2, some (aI x)] (kil L2 3) St S := ev_go i249_53 rfl
theorem i249_54 : insAt 249 54 = some (.iload_n 3, 1, (0, 0, 0, 0), 0) := rfl
theorem s249_54 {c : Nat → List AV → SS → Option Out} {l0 l1 l2 : Option AV} {x : Int32} {L2 : List (Nat × AV)} {St : List AV} {S : SS} : ev c 249 54 [l0, l1, l2, some (aI x)] L2 St S = ev c 249 55 [l0, l1, l2, some (aI x)] L2 (aI x :: St) S := ev_go i249_54 rfl
theorem i249_55 : insAt 249 55 = some (.bipush 7, 2, (0, 0, 0, 0), 0) := rfl
theorem s249_55 {c : Nat → List AV → SS → Option Out} {l0 l1 l2 l3 : Option AV} {L2 : List (Nat × AV)} {St : List AV} {S : SS} : ev c 249 55 [l0, l1, l2, l3] L2 St S = ev c 249 57 [l0, l1, l2, l3] L2 (aI 7 :: St) S := ev_go i249_55 rfl
theorem i249_57 : insAt 249 57 = some (.if_icmp .ge 40, 3, (0, 0, 0, 0), 0) := rfl
theorem s249_57 {c : Nat → List AV → SS → Option Out} {l0 l1 l2 l3 : Option AV} {x y : Int32} {L2 : List (Nat × AV)} {St : List AV} {S : SS} : ev c 249 57 [l0, l1, l2, l3] L2 (aI y :: aI x :: St) S = if y ≤ x then ev c 249 97 [l0, l1, l2, l3] L2 St S else ev c 249 60 [l0, l1, l2, l3] L2 St S := ev_br i249_57 rfl
theorem i249_60 : insAt 249 60 = some (.aload_n 0, 1, (0, 0, 0, 0), 0) := rfl
theorem s249_60 {c : Nat → List AV → SS → Option Out} {l1 l2 l3 : Option AV} {o : OId} {L2 : List (Nat × AV)} {St : List AV} {S : SS} : ev c 249 60 [some (aR o), l1, l2, l3] L2 St S = ev c 249 61 [some (aR o), l1, l2, l3] L2 (aR o :: St) S := ev_go i249_60 rfl
theorem i249_61 : insAt 249 61 = some (.getfield 7, 3, (12, 0, 0, 0), 364) := rfl
theorem s249_61 {c : Nat → List AV → SS → Option Out} {l0 l1 l2 l3 : Option AV} {j t : Nat} {L2 : List (Nat × AV)} {St : List AV} {S : SS} : ev c 249 61 [l0, l1, l2, l3] L2 (aR (12, j, t) :: St) S = ev c 249 64 [l0, l1, l2, l3] L2 (S.2.2.1 (12, j, t) 0 :: St) S := ev_go i249_61 rfl
theorem i249_64 : insAt 249 64 = some (.bipush 57, 2, (0, 0, 0, 0), 0) := rfl
theorem s249_64 {c : Nat → List AV → SS → Option Out} {l0 l1 l2 l3 : Option AV} {L2 : List (Nat × AV)} {St : List AV} {S : SS} : ev c 249 64 [l0, l1, l2, l3] L2 St S = ev c 249 66 [l0, l1, l2, l3] L2 (aI 57 :: St) S := ev_go i249_64 rfl
theorem i249_66 : insAt 249 66 = some (.bipush 7, 2, (0, 0, 0, 0), 0) := rfl
theorem s249_66 {c : Nat → List AV → SS → Option Out} {l0 l1 l2 l3 : Option AV} {L2 : List (Nat × AV)} {St : List AV} {S : SS} : ev c 249 66 [l0, l1, l2, l3] L2 St S = ev c 249 68 [l0, l1, l2, l3] L2 (aI 7 :: St) S := ev_go i249_66 rfl
theorem i249_68 : insAt 249 68 = some (.iload_n 2, 1, (0, 0, 0, 0), 0) := rfl
theorem s249_68 {c : Nat → List AV → SS → Option Out} {l0 l1 l3 : Option AV} {x : Int32} {L2 : List (Nat × AV)} {St : List AV} {S : SS} : ev c 249 68 [l0, l1, some (aI x), l3] L2 St S = ev c 249 69 [l0, l1, some (aI x), l3] L2 (aI x :: St) S := ev_go i249_68 rfl
theorem i249_69 : insAt 249 69 = some (.imul, 1, (0, 0, 0, 0), 0) := rfl
theorem s249_69 {c : Nat → List AV → SS → Option Out} {l0 l1 l2 l3 : Option AV} {x y : Int32} {L2 : List (Nat × AV)} {St : List AV} {S : SS} : ev c 249 69 [l0, l1, l2, l3] L2 (aI y :: aI x :: St) S = ev c 249 70 [l0, l1, l2, l3] L2 (aI (x * y) :: St) S := ev_go i249_69 rfl
theorem i249_70 : insAt 249 70 = some (.iadd, 1, (0, 0, 0, 0), 0) := rfl
theorem s249_70 {c : Nat → List AV → SS → Option Out} {l0 l1 l2 l3 : Option AV} {x y : Int32} {L2 : List (Nat × AV)} {St : List AV} {S : SS} : ev c 249 70 [l0, l1, l2, l3] L2 (aI y :: aI x :: St) S = ev c 249 71 [l0, l1, l2, l3] L2 (aI (x + y) :: St) S := ev_go i249_70 rfl
theorem i249_71 : insAt 249 71 = some (.iload_n 3, 1, (0, 0, 0, 0), 0) := rfl
theorem s249_71 {c : Nat → List AV → SS → Option Out} {l0 l1 l2 : Option AV} {x : Int32} {L2 : List (Nat × AV)} {St : List AV} {S : SS} : ev c 249 71 [l0, l1, l2, some (aI x)] L2 St S = ev c 249 72 [l0, l1, l2, some (aI x)] L2 (aI x :: St) S := ev_go i249_71 rfl
theorem i249_72 : insAt 249 72 = some (.iadd, 1, (0, 0, 0, 0), 0) := rfl
theorem s249_72 {c : Nat → List AV → SS → Option Out} {l0 l1 l2 l3 : Option AV} {x y : Int32} {L2 : List (Nat × AV)} {St : List AV} {S : SS} : ev c 249 72 [l0, l1, l2, l3] L2 (aI y :: aI x :: St) S = ev c 249 73 [l0, l1, l2, l3] L2 (aI (x + y) :: St) S := ev_go i249_72 rfl
theorem i249_73 : insAt 249 73 = some (.aload_n 0, 1, (0, 0, 0, 0), 0) := rfl
theorem s249_73 {c : Nat → List AV → SS → Option Out} {l1 l2 l3 : Option AV} {o : OId} {L2 : List (Nat × AV)} {St : List AV} {S : SS} : ev c 249 73 [some (aR o), l1, l2, l3] L2 St S = ev c 249 74 [some (aR o), l1, l2, l3] L2 (aR o :: St) S := ev_go i249_73 rfl
theorem i249_74 : insAt 249 74 = some (.getfield 7, 3, (12, 0, 0, 0), 364) := rfl
theorem s249_74 {c : Nat → List AV → SS → Option Out} {l0 l1 l2 l3 : Option AV} {j t : Nat} {L2 : List (Nat × AV)} {St : List AV} {S : SS} : ev c 249 74 [l0, l1, l2, l3] L2 (aR (12, j, t) :: St) S = ev c 249 77 [l0, l1, l2, l3] L2 (S.2.2.1 (12, j, t) 0 :: St) S := ev_go i249_74 rfl
theorem i249_77 : insAt 249 77 = some (.bipush 57, 2, (0, 0, 0, 0), 0) := rfl
theorem s249_77 {c : Nat → List AV → SS → Option Out} {l0 l1 l2 l3 : Option AV} {L2 : List (Nat × AV)} {St : List AV} {S : SS} : ev c 249 77 [l0, l1, l2, l3] L2 St S = ev c 249 79 [l0, l1, l2, l3] L2 (aI 57 :: St) S := ev_go i249_77 rfl
theorem i249_79 : insAt 249 79 = some (.bipush 7, 2, (0, 0, 0, 0), 0) := rfl
theorem s249_79 {c : Nat → List AV → SS → Option Out} {l0 l1 l2 l3 : Option AV} {L2 : List (Nat × AV)} {St : List AV} {S : SS} : ev c 249 79 [l0, l1, l2, l3] L2 St S = ev c 249 81 [l0, l1, l2, l3] L2 (aI 7 :: St) S := ev_go i249_79 rfl
theorem i249_81 : insAt 249 81 = some (.iload_n 2, 1, (0, 0, 0, 0), 0) := rfl
theorem s249_81 {c : Nat → List AV → SS → Option Out} {l0 l1 l3 : Option AV} {x : Int32} {L2 : List (Nat × AV)} {St : List AV} {S : SS} : ev c 249 81 [l0, l1, some (aI x), l3] L2 St S = ev c 249 82 [l0, l1, some (aI x), l3] L2 (aI x :: St) S := ev_go i249_81 rfl
theorem i249_82 : insAt 249 82 = some (.imul, 1, (0, 0, 0, 0), 0) := rfl
theorem s249_82 {c : Nat → List AV → SS → Option Out} {l0 l1 l2 l3 : Option AV} {x y : Int32} {L2 : List (Nat × AV)} {St : List AV} {S : SS} : ev c 249 82 [l0, l1, l2, l3] L2 (aI y :: aI x :: St) S = ev c 249 83 [l0, l1, l2, l3] L2 (aI (x * y) :: St) S := ev_go i249_82 rfl
theorem i249_83 : insAt 249 83 = some (.iadd, 1, (0, 0, 0, 0), 0) := rfl
theorem s249_83 {c : Nat → List AV → SS → Option Out} {l0 l1 l2 l3 : Option AV} {x y : Int32} {L2 : List (Nat × AV)} {St : List AV} {S : SS} : ev c 249 83 [l0, l1, l2, l3] L2 (aI y :: aI x :: St) S = ev c 249 84 [l0, l1, l2, l3] L2 (aI (x + y) :: St) S := ev_go i249_83 rfl
theorem i249_84 : insAt 249 84 = some (.bipush 7, 2, (0, 0, 0, 0), 0) := rfl
theorem s249_84 {c : Nat → List AV → SS → Option Out} {l0 l1 l2 l3 : Option AV} {L2 : List (Nat × AV)} {St : List AV} {S : SS} : ev c 249 84 [l0, l1, l2, l3] L2 St S = ev c 249 86 [l0, l1, l2, l3] L2 (aI 7 :: St) S := ev_go i249_84 rfl
theorem i249_86 : insAt 249 86 = some (.iadd, 1, (0, 0, 0, 0), 0) := rfl
theorem s249_86 {c : Nat → List AV → SS → Option Out} {l0 l1 l2 l3 : Option AV} {x y : Int32} {L2 : List (Nat × AV)} {St : List AV} {S : SS} : ev c 249 86 [l0, l1, l2, l3] L2 (aI y :: aI x :: St) S = ev c 249 87 [l0, l1, l2, l3] L2 (aI (x + y) :: St) S := ev_go i249_86 rfl
theorem i249_87 : insAt 249 87 = some (.iload_n 3, 1, (0, 0, 0, 0), 0) := rfl
theorem s249_87 {c : Nat → List AV → SS → Option Out} {l0 l1 l2 : Option AV} {x : Int32} {L2 : List (Nat × AV)} {St : List AV} {S : SS} : ev c 249 87 [l0, l1, l2, some (aI x)] L2 St S = ev c 249 88 [l0, l1, l2, some (aI x)] L2 (aI x :: St) S := ev_go i249_87 rfl
theorem i249_88 : insAt 249 88 = some (.iadd, 1, (0, 0, 0, 0), 0) := rfl
theorem s249_88 {c : Nat → List AV → SS → Option Out} {l0 l1 l2 l3 : Option AV} {x y : Int32} {L2 : List (Nat × AV)} {St : List AV} {S : SS} : ev c 249 88 [l0, l1, l2, l3] L2 (aI y :: aI x :: St) S = ev c 249 89 [l0, l1, l2, l3] L2 (aI (x + y) :: St) S := ev_go i249_88 rfl
theorem i249_89 : insAt 249 89 = some (.iaload, 1, (0, 0, 0, 0), 0) := rfl
theorem s249_89 {c : Nat → List AV → SS → Option Out} {l0 l1 l2 l3 : Option AV} {i : Int32} {o : OId} {L2 : List (Nat × AV)} {St : List AV} {S : SS} : ev c 249 89 [l0, l1, l2, l3] L2 (aI i :: aR o :: St) S = kI o i (ev c 249 90 [l0, l1, l2, l3] L2 (aI (agI S o i.toNatClampNeg) :: St) S) := ev_iaload i249_89
theorem i249_90 : insAt 249 90 = some (.iastore, 1, (0, 0, 0, 0), 0) := rfl
theorem s249_90 {c : Nat → List AV → SS → Option Out} {l0 l1 l2 l3 : Option AV} {x i : Int32} {o : OId} {L2 : List (Nat × AV)} {St : List AV} {S : SS} : ev c 249 90 [l0, l1, l2, l3] L2 (aI x :: aI i :: aR o :: St) S = kIw o i (ev c 249 91 [l0, l1, l2, l3] L2 St (setI S.1 o i.toNatClampNeg x, S.2)) := ev_iastore i249_90
theorem i249_91 : insAt 249 91 = some (.iinc 3 1, 3, (0, 0, 0, 0), 0) := rfl
theorem s249_91 {c : Nat → List AV → SS → Option Out} {l0 l1 l2 : Option AV} {x : Int32} {L2 : List (Nat × AV)} {St : List AV} {S : SS} : ev c 249 91 [l0, l1, l2, some (aI x)] L2 St S = ev c 249 94 [l0, l1, l2, some (aI (x + 1))] (kil L2 3) St S := ev_go i249_91 rfl
theorem i249_94 : insAt 249 94 = some (.goto (-40), 3, (0, 0, 0, 0), 0) := rfl
theorem s249_94 {c : Nat → List AV → SS → Option Out} {l0 l1 l2 l3 : Option AV} {L2 : List (Nat × AV)} {St : List AV} {S : SS} : ev c 249 94 [l0, l1, l2, l3] L2 St S = ev c 249 54 [l0, l1, l2, l3] L2 St S := ev_go i249_94 rfl
theorem i249_97 : insAt 249 97 = some (.iinc 2 1, 3, (0, 0, 0, 0), 0) := rfl
theorem s249_97 {c : Nat → List AV → SS → Option Out} {l0 l1 l3 : Option AV} {x : Int32} {L2 : List (Nat × AV)} {St : List AV} {S : SS} : ev c 249 97 [l0, l1, some (aI x), l3] L2 St S = ev c 249 100 [l0, l1, some (aI (x + 1)), l3] (kil L2 2) St S := ev_go i249_97 rfl
theorem i249_100 : insAt 249 100 = some (.goto (-87), 3, (0, 0, 0, 0), 0) := rfl
theorem s249_100 {c : Nat → List AV → SS → Option Out} {l0 l1 l2 l3 : Option AV} {L2 : List (Nat × AV)} {St : List AV} {S : SS} : ev c 249 100 [l0, l1, l2, l3] L2 St S = ev c 249 13 [l0, l1, l2, l3] L2 St S := ev_go i249_100 rfl
theorem i249_103 : insAt 249 103 = some (.iconst 0, 1, (0, 0, 0, 0), 0) := rfl
theorem s249_103 {c : Nat → List AV → SS → Option Out} {l0 l1 l2 l3 : Option AV} {L2 : List (Nat × AV)} {St : List AV} {S : SS} : ev c 249 103 [l0, l1, l2, l3] L2 St S = ev c 249 104 [l0, l1, l2, l3] L2 (aI 0 :: St) S := ev_go i249_103 rfl
theorem i249_104 : insAt 249 104 = some (.istore_n 2, 1, (0, 0, 0, 0), 0) := rfl
theorem s249_104 {c : Nat → List AV → SS → Option Out} {l0 l1 l2 l3 : Option AV} {x : Int32} {L2 : List (Nat × AV)} {St : List AV} {S : SS} : ev c 249 104 [l0, l1, l2, l3] L2 (aI x :: St) S = ev c 249 105 [l0, l1, some (aI x), l3] (kil L2 2) St S := ev_go i249_104 rfl
theorem i249_105 : insAt 249 105 = some (.iload_n 2, 1, (0, 0, 0, 0), 0) := rfl
theorem s249_105 {c : Nat → List AV → SS → Option Out} {l0 l1 l3 : Option AV} {x : Int32} {L2 : List (Nat × AV)} {St : List AV} {S : SS} : ev c 249 105 [l0, l1, some (aI x), l3] L2 St S = ev c 249 106 [l0, l1, some (aI x), l3] L2 (aI x :: St) S := ev_go i249_105 rfl
theorem i249_106 : insAt 249 106 = some (.aload_n 0, 1, (0, 0, 0, 0), 0) := rfl
theorem s249_106 {c : Nat → List AV → SS → Option Out} {l1 l2 l3 : Option AV} {o : OId} {L2 : List (Nat × AV)} {St : List AV} {S : SS} : ev c 249 106 [some (aR o), l1, l2, l3] L2 St S = ev c 249 107 [some (aR o), l1, l2, l3] L2 (aR o :: St) S := ev_go i249_106 rfl
theorem i249_107 : insAt 249 107 = some (.getfield 7, 3, (12, 0, 0, 0), 364) := rfl
theorem s249_107 {c : Nat → List AV → SS → Option Out} {l0 l1 l2 l3 : Option AV} {j t : Nat} {L2 : List (Nat × AV)} {St : List AV} {S : SS} : ev c 249 107 [l0, l1, l2, l3] L2 (aR (12, j, t) :: St) S = ev c 249 110 [l0, l1, l2, l3] L2 (S.2.2.1 (12, j, t) 0 :: St) S := ev_go i249_107 rfl
theorem i249_110 : insAt 249 110 = some (.bipush 7, 2, (0, 0, 0, 0), 0) := rfl
theorem s249_110 {c : Nat → List AV → SS → Option Out} {l0 l1 l2 l3 : Option AV} {L2 : List (Nat × AV)} {St : List AV} {S : SS} : ev c 249 110 [l0, l1, l2, l3] L2 St S = ev c 249 112 [l0, l1, l2, l3] L2 (aI 7 :: St) S := ev_go i249_110 rfl
theorem i249_112 : insAt 249 112 = some (.iaload, 1, (0, 0, 0, 0), 0) := rfl
theorem s249_112 {c : Nat → List AV → SS → Option Out} {l0 l1 l2 l3 : Option AV} {i : Int32} {o : OId} {L2 : List (Nat × AV)} {St : List AV} {S : SS} : ev c 249 112 [l0, l1, l2, l3] L2 (aI i :: aR o :: St) S = kI o i (ev c 249 113 [l0, l1, l2, l3] L2 (aI (agI S o i.toNatClampNeg) :: St) S) := ev_iaload i249_112
theorem i249_113 : insAt 249 113 = some (.if_icmp .ge 58, 3, (0, 0, 0, 0), 0) := rfl
theorem s249_113 {c : Nat → List AV → SS → Option Out} {l0 l1 l2 l3 : Option AV} {x y : Int32} {L2 : List (Nat × AV)} {St : List AV} {S : SS} : ev c 249 113 [l0, l1, l2, l3] L2 (aI y :: aI x :: St) S = if y ≤ x then ev c 249 171 [l0, l1, l2, l3] L2 St S else ev c 249 116 [l0, l1, l2, l3] L2 St S := ev_br i249_113 rfl
theorem i249_116 : insAt 249 116 = some (.iload_n 1, 1, (0, 0, 0, 0), 0) := rfl
theorem s249_116 {c : Nat → List AV → SS → Option Out} {l0 l2 l3 : Option AV} {x : Int32} {L2 : List (Nat × AV)} {St : List AV} {S : SS} : ev c 249 116 [l0, some (aI x), l2, l3] L2 St S = ev c 249 117 [l0, some (aI x), l2, l3] L2 (aI x :: St) S := ev_go i249_116 rfl
theorem i249_117 : insAt 249 117 = some (.istore_n 3, 1, (0, 0, 0, 0), 0) := rfl
theorem s249_117 {c : Nat → List AV → SS → Option Out} {l0 l1 l2 l3 : Option AV} {x : Int32} {L2 : List (Nat × AV)} {St : List AV} {S : SS} : ev c 249 117 [l0, l1, l2, l3] L2 (aI x :: St) S = ev c 249 118 [l0, l1, l2, some (aI x)] (kil L2 3) St S := ev_go i249_117 rfl
theorem i249_118 : insAt 249 118 = some (.iload_n 3, 1, (0, 0, 0, 0), 0) := rfl
theorem s249_118 {c : Nat → List AV → SS → Option Out} {l0 l1 l2 : Option AV} {x : Int32} {L2 : List (Nat × AV)} {St : List AV} {S : SS} : ev c 249 118 [l0, l1, l2, some (aI x)] L2 St S = ev c 249 119 [l0, l1, l2, some (aI x)] L2 (aI x :: St) S := ev_go i249_118 rfl
theorem i249_119 : insAt 249 119 = some (.aload_n 0, 1, (0, 0, 0, 0), 0) := rfl
theorem s249_119 {c : Nat → List AV → SS → Option Out} {l1 l2 l3 : Option AV} {o : OId} {L2 : List (Nat × AV)} {St : List AV} {S : SS} : ev c 249 119 [some (aR o), l1, l2, l3] L2 St S = ev c 249 120 [some (aR o), l1, l2, l3] L2 (aR o :: St) S := ev_go i249_119 rfl
theorem i249_120 : insAt 249 120 = some (.getfield 7, 3, (12, 0, 0, 0), 364) := rfl
theorem s249_120 {c : Nat → List AV → SS → Option Out} {l0 l1 l2 l3 : Option AV} {j t : Nat} {L2 : List (Nat × AV)} {St : List AV} {S : SS} : ev c 249 120 [l0, l1, l2, l3] L2 (aR (12, j, t) :: St) S = ev c 249 123 [l0, l1, l2, l3] L2 (S.2.2.1 (12, j, t) 0 :: St) S := ev_go i249_120 rfl
theorem i249_123 : insAt 249 123 = some (.bipush 7, 2, (0, 0, 0, 0), 0) := rfl
theorem s249_123 {c : Nat → List AV → SS → Option Out} {l0 l1 l2 l3 : Option AV} {L2 : List (Nat × AV)} {St : List AV} {S : SS} : ev c 249 123 [l0, l1, l2, l3] L2 St S = ev c 249 125 [l0, l1, l2, l3] L2 (aI 7 :: St) S := ev_go i249_123 rfl
theorem i249_125 : insAt 249 125 = some (.iaload, 1, (0, 0, 0, 0), 0) := rfl
theorem s249_125 {c : Nat → List AV → SS → Option Out} {l0 l1 l2 l3 : Option AV} {i : Int32} {o : OId} {L2 : List (Nat × AV)} {St : List AV} {S : SS} : ev c 249 125 [l0, l1, l2, l3] L2 (aI i :: aR o :: St) S = kI o i (ev c 249 126 [l0, l1, l2, l3] L2 (aI (agI S o i.toNatClampNeg) :: St) S) := ev_iaload i249_125
theorem i249_126 : insAt 249 126 = some (.if_icmp .ge 39, 3, (0, 0, 0, 0), 0) := rfl
theorem s249_126 {c : Nat → List AV → SS → Option Out} {l0 l1 l2 l3 : Option AV} {x y : Int32} {L2 : List (Nat × AV)} {St : List AV} {S : SS} : ev c 249 126 [l0, l1, l2, l3] L2 (aI y :: aI x :: St) S = if y ≤ x then ev c 249 165 [l0, l1, l2, l3] L2 St S else ev c 249 129 [l0, l1, l2, l3] L2 St S := ev_br i249_126 rfl
theorem i249_129 : insAt 249 129 = some (.aload_n 0, 1, (0, 0, 0, 0), 0) := rfl
theorem s249_129 {c : Nat → List AV → SS → Option Out} {l1 l2 l3 : Option AV} {o : OId} {L2 : List (Nat × AV)} {St : List AV} {S : SS} : ev c 249 129 [some (aR o), l1, l2, l3] L2 St S = ev c 249 130 [some (aR o), l1, l2, l3] L2 (aR o :: St) S := ev_go i249_129 rfl
theorem i249_130 : insAt 249 130 = some (.getfield 7, 3, (12, 0, 0, 0), 364) := rfl
theorem s249_130 {c : Nat → List AV → SS → Option Out} {l0 l1 l2 l3 : Option AV} {j t : Nat} {L2 : List (Nat × AV)} {St : List AV} {S : SS} : ev c 249 130 [l0, l1, l2, l3] L2 (aR (12, j, t) :: St) S = ev c 249 133 [l0, l1, l2, l3] L2 (S.2.2.1 (12, j, t) 0 :: St) S := ev_go i249_130 rfl
theorem i249_133 : insAt 249 133 = some (.bipush 57, 2, (0, 0, 0, 0), 0) := rfl
theorem s249_133 {c : Nat → List AV → SS → Option Out} {l0 l1 l2 l3 : Option AV} {L2 : List (Nat × AV)} {St : List AV} {S : SS} : ev c 249 133 [l0, l1, l2, l3] L2 St S = ev c 249 135 [l0, l1, l2, l3] L2 (aI 57 :: St) S := ev_go i249_133 rfl
theorem i249_135 : insAt 249 135 = some (.bipush 7, 2, (0, 0, 0, 0), 0) := rfl
theorem s249_135 {c : Nat → List AV → SS → Option Out} {l0 l1 l2 l3 : Option AV} {L2 : List (Nat × AV)} {St : List AV} {S : SS} : ev c 249 135 [l0, l1, l2, l3] L2 St S = ev c 249 137 [l0, l1, l2, l3] L2 (aI 7 :: St) S := ev_go i249_135 rfl
theorem i249_137 : insAt 249 137 = some (.iload_n 2, 1, (0, 0, 0, 0), 0) := rfl
theorem s249_137 {c : Nat → List AV → SS → Option Out} {l0 l1 l3 : Option AV} {x : Int32} {L2 : List (Nat × AV)} {St : List AV} {S : SS} : ev c 249 137 [l0, l1, some (aI x), l3] L2 St S = ev c 249 138 [l0, l1, some (aI x), l3] L2 (aI x :: St) S := ev_go i249_137 rfl
theorem i249_138 : insAt 249 138 = some (.imul, 1, (0, 0, 0, 0), 0) := rfl
theorem s249_138 {c : Nat → List AV → SS → Option Out} {l0 l1 l2 l3 : Option AV} {x y : Int32} {L2 : List (Nat × AV)} {St : List AV} {S : SS} : ev c 249 138 [l0, l1, l2, l3] L2 (aI y :: aI x :: St) S = ev c 249 139 [l0, l1, l2, l3] L2 (aI (x * y) :: St) S := ev_go i249_138 rfl
theorem i249_139 : insAt 249 139 = some (.iadd, 1, (0, 0, 0, 0), 0) := rfl
theorem s249_139 {c : Nat → List AV → SS → Option Out} {l0 l1 l2 l3 : Option AV} {x y : Int32} {L2 : List (Nat × AV)} {St : List AV} {S : SS} : ev c 249 139 [l0, l1, l2, l3] L2 (aI y :: aI x :: St) S = ev c 249 140 [l0, l1, l2, l3] L2 (aI (x + y) :: St) S := ev_go i249_139 rfl
theorem i249_140 : insAt 249 140 = some (.iload_n 3, 1, (0, 0, 0, 0), 0) := rfl
theorem s249_140 {c : Nat → List AV → SS → Option Out} {l0 l1 l2 : Option AV} {x : Int32} {L2 : List (Nat × AV)} {St : List AV} {S : SS} : ev c 249 140 [l0, l1, l2, some (aI x)] L2 St S = ev c 249 141 [l0, l1, l2, some (aI x)] L2 (aI x :: St) S := ev_go i249_140 rfl
theorem i249_141 : insAt 249 141 = some (.iadd, 1, (0, 0, 0, 0), 0) := rfl
theorem s249_141 {c : Nat → List AV → SS → Option Out} {l0 l1 l2 l3 : Option AV} {x y : Int32} {L2 : List (Nat × AV)} {St : List AV} {S : SS} : ev c 249 141 [l0, l1, l2, l3] L2 (aI y :: aI x :: St) S = ev c 249 142 [l0, l1, l2, l3] L2 (aI (x + y) :: St) S := ev_go i249_141 rfl
theorem i249_142 : insAt 249 142 = some (.aload_n 0, 1, (0, 0, 0, 0), 0) := rfl
theorem s249_142 {c : Nat → List AV → SS → Option Out} {l1 l2 l3 : Option AV} {o : OId} {L2 : List (Nat × AV)} {St : List AV} {S : SS} : ev c 249 142 [some (aR o), l1, l2, l3] L2 St S = ev c 249 143 [some (aR o), l1, l2, l3] L2 (aR o :: St) S := ev_go i249_142 rfl
theorem i249_143 : insAt 249 143 = some (.getfield 7, 3, (12, 0, 0, 0), 364) := rfl
theorem s249_143 {c : Nat → List AV → SS → Option Out} {l0 l1 l2 l3 : Option AV} {j t : Nat} {L2 : List (Nat × AV)} {St : List AV} {S : SS} : ev c 249 143 [l0, l1, l2, l3] L2 (aR (12, j, t) :: St) S = ev c 249 146 [l0, l1, l2, l3] L2 (S.2.2.1 (12, j, t) 0 :: St) S := ev_go i249_143 rfl
theorem i249_146 : insAt 249 146 = some (.bipush 57, 2, (0, 0, 0, 0), 0) := rfl
theorem s249_146 {c : Nat → List AV → SS → Option Out} {l0 l1 l2 l3 : Option AV} {L2 : List (Nat × AV)} {St : List AV} {S : SS} : ev c 249 146 [l0, l1, l2, l3] L2 St S = ev c 249 148 [l0, l1, l2, l3] L2 (aI 57 :: St) S := ev_go i249_146 rfl
theorem i249_148 : insAt 249 148 = some (.bipush 7, 2, (0, 0, 0, 0), 0) := rfl
theorem s249_148 {c : Nat → List AV → SS → Option Out} {l0 l1 l2 l3 : Option AV} {L2 : List (Nat × AV)} {St : List AV} {S : SS} : ev c 249 148 [l0, l1, l2, l3] L2 St S = ev c 249 150 [l0, l1, l2, l3] L2 (aI 7 :: St) S := ev_go i249_148 rfl
theorem i249_150 : insAt 249 150 = some (.iload_n 2, 1, (0, 0, 0, 0), 0) := rfl
theorem s249_150 {c : Nat → List AV → SS → Option Out} {l0 l1 l3 : Option AV} {x : Int32} {L2 : List (Nat × AV)} {St : List AV} {S : SS} : ev c 249 150 [l0, l1, some (aI x), l3] L2 St S = ev c 249 151 [l0, l1, some (aI x), l3] L2 (aI x :: St) S := ev_go i249_150 rfl
theorem i249_151 : insAt 249 151 = some (.imul, 1, (0, 0, 0, 0), 0) := rfl
theorem s249_151 {c : Nat → List AV → SS → Option Out} {l0 l1 l2 l3 : Option AV} {x y : Int32} {L2 : List (Nat × AV)} {St : List AV} {S : SS} : ev c 249 151 [l0, l1, l2, l3] L2 (aI y :: aI x :: St) S = ev c 249 152 [l0, l1, l2, l3] L2 (aI (x * y) :: St) S := ev_go i249_151 rfl
theorem i249_152 : insAt 249 152 = some (.iadd, 1, (0, 0, 0, 0), 0) := rfl
theorem s249_152 {c : Nat → List AV → SS → Option Out} {l0 l1 l2 l3 : Option AV} {x y : Int32} {L2 : List (Nat × AV)} {St : List AV} {S : SS} : ev c 249 152 [l0, l1, l2, l3] L2 (aI y :: aI x :: St) S = ev c 249 153 [l0, l1, l2, l3] L2 (aI (x + y) :: St) S := ev_go i249_152 rfl
theorem i249_153 : insAt 249 153 = some (.iload_n 3, 1, (0, 0, 0, 0), 0) := rfl
theorem s249_153 {c : Nat → List AV → SS → Option Out} {l0 l1 l2 : Option AV} {x : Int32} {L2 : List (Nat × AV)} {St : List AV} {S : SS} : ev c 249 153 [l0, l1, l2, some (aI x)] L2 St S = ev c 249 154 [l0, l1, l2, some (aI x)] L2 (aI x :: St) S := ev_go i249_153 rfl
theorem i249_154 : insAt 249 154 = some (.iadd, 1, (0, 0, 0, 0), 0) := rfl
theorem s249_154 {c : Nat → List AV → SS → Option Out} {l0 l1 l2 l3 : Option AV} {x y : Int32} {L2 : List (Nat × AV)} {St : List AV} {S : SS} : ev c 249 154 [l0, l1, l2, l3] L2 (aI y :: aI x :: St) S = ev c 249 155 [l0, l1, l2, l3] L2 (aI (x + y) :: St) S := ev_go i249_154 rfl
theorem i249_155 : insAt 249 155 = some (.iconst 1, 1, (0, 0, 0, 0), 0) := rfl
theorem s249_155 {c : Nat → List AV → SS → Option Out} {l0 l1 l2 l3 : Option AV} {L2 : List (Nat × AV)} {St : List AV} {S : SS} : ev c 249 155 [l0, l1, l2, l3] L2 St S = ev c 249 156 [l0, l1, l2, l3] L2 (aI 1 :: St) S := ev_go i249_155 rfl
theorem i249_156 : insAt 249 156 = some (.iadd, 1, (0, 0, 0, 0), 0) := rfl
theorem s249_156 {c : Nat → List AV → SS → Option Out} {l0 l1 l2 l3 : Option AV} {x y : Int32} {L2 : List (Nat × AV)} {St : List AV} {S : SS} : ev c 249 156 [l0, l1, l2, l3] L2 (aI y :: aI x :: St) S = ev c 249 157 [l0, l1, l2, l3] L2 (aI (x + y) :: St) S := ev_go i249_156 rfl
theorem i249_157 : insAt 249 157 = some (.iaload, 1, (0, 0, 0, 0), 0) := rfl
theorem s249_157 {c : Nat → List AV → SS → Option Out} {l0 l1 l2 l3 : Option AV} {i : Int32} {o : OId} {L2 : List (Nat × AV)} {St : List AV} {S : SS} : ev c 249 157 [l0, l1, l2, l3] L2 (aI i :: aR o :: St) S = kI o i (ev c 249 158 [l0, l1, l2, l3] L2 (aI (agI S o i.toNatClampNeg) :: St) S) := ev_iaload i249_157
theorem i249_158 : insAt 249 158 = some (.iastore, 1, (0, 0, 0, 0), 0) := rfl
theorem s249_158 {c : Nat → List AV → SS → Option Out} {l0 l1 l2 l3 : Option AV} {x i : Int32} {o : OId} {L2 : List (Nat × AV)} {St : List AV} {S : SS} : ev c 249 158 [l0, l1, l2, l3] L2 (aI x :: aI i :: aR o :: St) S = kIw o i (ev c 249 159 [l0, l1, l2, l3] L2 St (setI S.1 o i.toNatClampNeg x, S.2)) := ev_iastore i249_158
theorem i249_159 : insAt 249 159 = some (.iinc 3 1, 3, (0, 0, 0, 0), 0) := rfl
theorem s249_159 {c : Nat → List AV → SS → Option Out} {l0 l1 l2 : Option AV} {x : Int32} {L2 : List (Nat × AV)} {St : List AV} {S : SS} : ev c 249 159 [l0, l1, l2, some (aI x)] L2 St S = ev c 249 162 [l0, l1, l2, some (aI (x + 1))] (kil L2 3) St S := ev_go i249_159 rfl
theorem i249_162 : insAt 249 162 = some (.goto (-44), 3, (0, 0, 0, 0), 0) := rfl
theorem s249_162 {c : Nat → List AV → SS → Option Out} {l0 l1 l2 l3 : Option AV} {L2 : List (Nat × AV)} {St : List AV} {S : SS} : ev c 249 162 [l0, l1, l2, l3] L2 St S = ev c 249 118 [l0, l1, l2, l3] L2 St S := ev_go i249_162 rfl
theorem i249_165 : insAt 249 165 = some (.iinc 2 1, 3, (0, 0, 0, 0), 0) := rfl
theorem s249_165 {c : Nat → List AV → SS → Option Out} {l0 l1 l3 : Option AV} {x : Int32} {L2 : List (Nat × AV)} {St : List AV} {S : SS} : ev c 249 165 [l0, l1, some (aI x), l3] L2 St S = ev c 249 168 [l0, l1, some (aI (x + 1)), l3] (kil L2 2) St S := ev_go i249_165 rfl
theorem i249_168 : insAt 249 168 = some (.goto (-63), 3, (0, 0, 0, 0), 0) := rfl
theorem s249_168 {c : Nat → List AV → SS → Option Out} {l0 l1 l2 l3 : Option AV} {L2 : List (Nat × AV)} {St : List AV} {S : SS} : ev c 249 168 [l0, l1, l2, l3] L2 St S = ev c 249 105 [l0, l1, l2, l3] L2 St S := ev_go i249_168 rfl
theorem i249_171 : insAt 249 171 = some (.return_, 1, (0, 0, 0, 0), 0) := rfl
theorem s249_171 {c : Nat → List AV → SS → Option Out} {l0 l1 l2 l3 : Option AV} {L2 : List (Nat × AV)} {S : SS} : ev c 249 171 [l0, l1, l2, l3] L2 [] S = some (.inl none, S) := ev_end i249_171 rfl
theorem m249 {d : Nat} {o : OId} {a0 : Int32} {S : SS} : evm (d + 1) 249 [aR o, aI a0] S = ev (evm d) 249 0 [some (aR o), some (aI a0), none, none] [] [] S := evm_s (n := 4) rfl (Nat.le_of_ble_eq_true rfl) rfl rfl
/-! FrequencyOfficeModel.startTrial(III)I -/
theorem i250_0 : insAt 250 0 = some (.aload_n 0, 1, (0, 0, 0, 0), 0) := rfl
theorem s250_0 {c : Nat → List AV → SS → Option Out} {l1 l2 l3 l4 l5 : Option AV} {o : OId} {L2 : List (Nat × AV)} {St : List AV} {S : SS} : ev c 250 0 [some (aR o), l1, l2, l3, l4, l5] L2 St S = ev c 250 1 [some (aR o), l1, l2, l3, l4, l5] L2 (aR o :: St) S := ev_go i250_0 rfl
theorem i250_1 : insAt 250 1 = some (.iload_n 1, 1, (0, 0, 0, 0), 0) := rfl
theorem s250_1 {c : Nat → List AV → SS → Option Out} {l0 l2 l3 l4 l5 : Option AV} {x : Int32} {L2 : List (Nat × AV)} {St : List AV} {S : SS} : ev c 250 1 [l0, some (aI x), l2, l3, l4, l5] L2 St S = ev c 250 2 [l0, some (aI x), l2, l3, l4, l5] L2 (aI x :: St) S := ev_go i250_1 rfl
theorem i250_2 : insAt 250 2 = some (.iload_n 2, 1, (0, 0, 0, 0), 0) := rfl
theorem s250_2 {c : Nat → List AV → SS → Option Out} {l0 l1 l3 l4 l5 : Option AV} {x : Int32} {L2 : List (Nat × AV)} {St : List AV} {S : SS} : ev c 250 2 [l0, l1, some (aI x), l3, l4, l5] L2 St S = ev c 250 3 [l0, l1, some (aI x), l3, l4, l5] L2 (aI x :: St) S := ev_go i250_2 rfl
theorem i250_3 : insAt 250 3 = some (.invokestatic 158, 3, (224, 2, 0, 0), 387) := rfl
theorem s250_3 {c : Nat → List AV → SS → Option Out} {l0 l1 l2 l3 l4 l5 : Option AV} {t0 : AV} {a0 : Int32} {a1 : Int32} {L2 : List (Nat × AV)} {S : SS} : ev c 250 3 [l0, l1, l2, l3, l4, l5] L2 [aI a1, aI a0, t0] S = ck (c 224 [aI a0, aI a1] S) (fun v S' => ev c 250 6 [l0, l1, l2, l3, l4, l5] L2 (v.toList ++ [t0]) S') := ev_call i250_3 rfl
theorem i250_6 : insAt 250 6 = some (.ifCond .eq 13, 3, (0, 0, 0, 0), 0) := rfl
theorem s250_6 {c : Nat → List AV → SS → Option Out} {l0 l1 l2 l3 l4 l5 : Option AV} {x : Int32} {L2 : List (Nat × AV)} {St : List AV} {S : SS} : ev c 250 6 [l0, l1, l2, l3, l4, l5] L2 (aI x :: St) S = if x = 0 then ev c 250 19 [l0, l1, l2, l3, l4, l5] L2 St S else ev c 250 9 [l0, l1, l2, l3, l4, l5] L2 St S := ev_br i250_6 rfl
theorem i250_9 : insAt 250 9 = some (.iload_n 3, 1, (0, 0, 0, 0), 0) := rfl
theorem s250_9 {c : Nat → List AV → SS → Option Out} {l0 l1 l2 l4 l5 : Option AV} {x : Int32} {L2 : List (Nat × AV)} {St : List AV} {S : SS} : ev c 250 9 [l0, l1, l2, some (aI x), l4, l5] L2 St S = ev c 250 10 [l0, l1, l2, some (aI x), l4, l5] L2 (aI x :: St) S := ev_go i250_9 rfl
theorem i250_10 : insAt 250 10 = some (.iconst 1, 1, (0, 0, 0, 0), 0) := rfl
theorem s250_10 {c : Nat → List AV → SS → Option Out} {l0 l1 l2 l3 l4 l5 : Option AV} {L2 : List (Nat × AV)} {St : List AV} {S : SS} : ev c 250 10 [l0, l1, l2, l3, l4, l5] L2 St S = ev c 250 11 [l0, l1, l2, l3, l4, l5] L2 (aI 1 :: St) S := ev_go i250_10 rfl
theorem i250_11 : insAt 250 11 = some (.bipush 30, 2, (0, 0, 0, 0), 0) := rfl
theorem s250_11 {c : Nat → List AV → SS → Option Out} {l0 l1 l2 l3 l4 l5 : Option AV} {L2 : List (Nat × AV)} {St : List AV} {S : SS} : ev c 250 11 [l0, l1, l2, l3, l4, l5] L2 St S = ev c 250 13 [l0, l1, l2, l3, l4, l5] L2 (aI 30 :: St) S := ev_go i250_11 rfl
theorem i250_13 : insAt 250 13 = some (.invokestatic 154, 3, (225, 3, 0, 0), 388) := rfl
theorem s250_13 {c : Nat → List AV → SS → Option Out} {l0 l1 l2 l3 l4 l5 : Option AV} {t0 : AV} {a0 : Int32} {a1 : Int32} {a2 : Int32} {L2 : List (Nat × AV)} {S : SS} : ev c 250 13 [l0, l1, l2, l3, l4, l5] L2 [aI a2, aI a1, aI a0, t0] S = ck (c 225 [aI a0, aI a1, aI a2] S) (fun v S' => ev c 250 16 [l0, l1, l2, l3, l4, l5] L2 (v.toList ++ [t0]) S') := ev_call i250_13 rfl
theorem i250_16 : insAt 250 16 = some (.ifCond .ne 7, 3, (0, 0, 0, 0), 0) := rfl
theorem s250_16 {c : Nat → List AV → SS → Option Out} {l0 l1 l2 l3 l4 l5 : Option AV} {x : Int32} {L2 : List (Nat × AV)} {St : List AV} {S : SS} : ev c 250 16 [l0, l1, l2, l3, l4, l5] L2 (aI x :: St) S = if x = 0 then ev c 250 19 [l0, l1, l2, l3, l4, l5] L2 St S else ev c 250 23 [l0, l1, l2, l3, l4, l5] L2 St S := (ev_br i250_16 rfl).trans (ite_not _ _ _)
theorem i250_19 : insAt 250 19 = some (.iconst 1, 1, (0, 0, 0, 0), 0) := rfl
theorem s250_19 {c : Nat → List AV → SS → Option Out} {l0 l1 l2 l3 l4 l5 : Option AV} {L2 : List (Nat × AV)} {St : List AV} {S : SS} : ev c 250 19 [l0, l1, l2, l3, l4, l5] L2 St S = ev c 250 20 [l0, l1, l2, l3, l4, l5] L2 (aI 1 :: St) S := ev_go i250_19 rfl
theorem i250_20 : insAt 250 20 = some (.goto 20, 3, (0, 0, 0, 0), 0) := rfl
theorem s250_20 {c : Nat → List AV → SS → Option Out} {l0 l1 l2 l3 l4 l5 : Option AV} {L2 : List (Nat × AV)} {St : List AV} {S : SS} : ev c 250 20 [l0, l1, l2, l3, l4, l5] L2 St S = ev c 250 40 [l0, l1, l2, l3, l4, l5] L2 St S := ev_go i250_20 rfl
theorem i250_23 : insAt 250 23 = some (.aload_n 0, 1, (0, 0, 0, 0), 0) := rfl
theorem s250_23 {c : Nat → List AV → SS → Option Out} {l1 l2 l3 l4 l5 : Option AV} {o : OId} {L2 : List (Nat × AV)} {St : List AV} {S : SS} : ev c 250 23 [some (aR o), l1, l2, l3, l4, l5] L2 St S = ev c 250 24 [some (aR o), l1, l2, l3, l4, l5] L2 (aR o :: St) S := ev_go i250_23 rfl
theorem i250_24 : insAt 250 24 = some (.getfield 7, 3, (12, 0, 0, 0), 364) := rfl
theorem s250_24 {c : Nat → List AV → SS → Option Out} {l0 l1 l2 l3 l4 l5 : Option AV} {j t : Nat} {L2 : List (Nat × AV)} {St : List AV} {S : SS} : ev c 250 24 [l0, l1, l2, l3, l4, l5] L2 (aR (12, j, t) :: St) S = ev c 250 27 [l0, l1, l2, l3, l4, l5] L2 (S.2.2.1 (12, j, t) 0 :: St) S := ev_go i250_24 rfl
theorem i250_27 : insAt 250 27 = some (.bipush 7, 2, (0, 0, 0, 0), 0) := rfl
theorem s250_27 {c : Nat → List AV → SS → Option Out} {l0 l1 l2 l3 l4 l5 : Option AV} {L2 : List (Nat × AV)} {St : List AV} {S : SS} : ev c 250 27 [l0, l1, l2, l3, l4, l5] L2 St S = ev c 250 29 [l0, l1, l2, l3, l4, l5] L2 (aI 7 :: St) S := ev_go i250_27 rfl
theorem i250_29 : insAt 250 29 = some (.iaload, 1, (0, 0, 0, 0), 0) := rfl
theorem s250_29 {c : Nat → List AV → SS → Option Out} {l0 l1 l2 l3 l4 l5 : Option AV} {i : Int32} {o : OId} {L2 : List (Nat × AV)} {St : List AV} {S : SS} : ev c 250 29 [l0, l1, l2, l3, l4, l5] L2 (aI i :: aR o :: St) S = kI o i (ev c 250 30 [l0, l1, l2, l3, l4, l5] L2 (aI (agI S o i.toNatClampNeg) :: St) S) := ev_iaload i250_29
theorem i250_30 : insAt 250 30 = some (.bipush 7, 2, (0, 0, 0, 0), 0) := rfl
theorem s250_30 {c : Nat → List AV → SS → Option Out} {l0 l1 l2 l3 l4 l5 : Option AV} {L2 : List (Nat × AV)} {St : List AV} {S : SS} : ev c 250 30 [l0, l1, l2, l3, l4, l5] L2 St S = ev c 250 32 [l0, l1, l2, l3, l4, l5] L2 (aI 7 :: St) S := ev_go i250_30 rfl
theorem i250_32 : insAt 250 32 = some (.if_icmp .ne 7, 3, (0, 0, 0, 0), 0) := rfl
theorem s250_32 {c : Nat → List AV → SS → Option Out} {l0 l1 l2 l3 l4 l5 : Option AV} {x y : Int32} {L2 : List (Nat × AV)} {St : List AV} {S : SS} : ev c 250 32 [l0, l1, l2, l3, l4, l5] L2 (aI y :: aI x :: St) S = if x = y then ev c 250 35 [l0, l1, l2, l3, l4, l5] L2 St S else ev c 250 39 [l0, l1, l2, l3, l4, l5] L2 St S := (ev_br i250_32 rfl).trans (ite_not _ _ _)
theorem i250_35 : insAt 250 35 = some (.iconst 2, 1, (0, 0, 0, 0), 0) := rfl
theorem s250_35 {c : Nat → List AV → SS → Option Out} {l0 l1 l2 l3 l4 l5 : Option AV} {L2 : List (Nat × AV)} {St : List AV} {S : SS} : ev c 250 35 [l0, l1, l2, l3, l4, l5] L2 St S = ev c 250 36 [l0, l1, l2, l3, l4, l5] L2 (aI 2 :: St) S := ev_go i250_35 rfl
theorem i250_36 : insAt 250 36 = some (.goto 4, 3, (0, 0, 0, 0), 0) := rfl
theorem s250_36 {c : Nat → List AV → SS → Option Out} {l0 l1 l2 l3 l4 l5 : Option AV} {L2 : List (Nat × AV)} {St : List AV} {S : SS} : ev c 250 36 [l0, l1, l2, l3, l4, l5] L2 St S = ev c 250 40 [l0, l1, l2, l3, l4, l5] L2 St S := ev_go i250_36 rfl
theorem i250_39 : insAt 250 39 = some (.iconst 0, 1, (0, 0, 0, 0), 0) := rfl
theorem s250_39 {c : Nat → List AV → SS → Option Out} {l0 l1 l2 l3 l4 l5 : Option AV} {L2 : List (Nat × AV)} {St : List AV} {S : SS} : ev c 250 39 [l0, l1, l2, l3, l4, l5] L2 St S = ev c 250 40 [l0, l1, l2, l3, l4, l5] L2 (aI 0 :: St) S := ev_go i250_39 rfl
theorem i250_40 : insAt 250 40 = some (.putfield 31, 3, (12, 7, 0, 0), 371) := rfl
theorem s250_40 {c : Nat → List AV → SS → Option Out} {l0 l1 l2 l3 l4 l5 : Option AV} {j t : Nat} {x : Int32} {L2 : List (Nat × AV)} {St : List AV} {S : SS} : ev c 250 40 [l0, l1, l2, l3, l4, l5] L2 (aI x :: aR (12, j, t) :: St) S = ev c 250 43 [l0, l1, l2, l3, l4, l5] L2 St (setI S.1 (12, j, t) 7 x, S.2) := ev_go i250_40 rfl
theorem i250_43 : insAt 250 43 = some (.aload_n 0, 1, (0, 0, 0, 0), 0) := rfl
theorem s250_43 {c : Nat → List AV → SS → Option Out} {l1 l2 l3 l4 l5 : Option AV} {o : OId} {L2 : List (Nat × AV)} {St : List AV} {S : SS} : ev c 250 43 [some (aR o), l1, l2, l3, l4, l5] L2 St S = ev c 250 44 [some (aR o), l1, l2, l3, l4, l5] L2 (aR o :: St) S := ev_go i250_43 rfl
theorem i250_44 : insAt 250 44 = some (.getfield 31, 3, (12, 7, 0, 0), 371) := rfl
theorem s250_44 {c : Nat → List AV → SS → Option Out} {l0 l1 l2 l3 l4 l5 : Option AV} {j t : Nat} {L2 : List (Nat × AV)} {St : List AV} {S : SS} : ev c 250 44 [l0, l1, l2, l3, l4, l5] L2 (aR (12, j, t) :: St) S = ev c 250 47 [l0, l1, l2, l3, l4, l5] L2 (aI (S.1 (12, j, t) 7) :: St) S := ev_go i250_44 rfl
theorem i250_47 : insAt 250 47 = some (.ifCond .le 5, 3, (0, 0, 0, 0), 0) := rfl
theorem s250_47 {c : Nat → List AV → SS → Option Out} {l0 l1 l2 l3 l4 l5 : Option AV} {x : Int32} {L2 : List (Nat × AV)} {St : List AV} {S : SS} : ev c 250 47 [l0, l1, l2, l3, l4, l5] L2 (aI x :: St) S = if x ≤ 0 then ev c 250 52 [l0, l1, l2, l3, l4, l5] L2 St S else ev c 250 50 [l0, l1, l2, l3, l4, l5] L2 St S := ev_br i250_47 rfl
theorem i250_50 : insAt 250 50 = some (.iconst 0, 1, (0, 0, 0, 0), 0) := rfl
theorem s250_50 {c : Nat → List AV → SS → Option Out} {l0 l1 l2 l3 l4 l5 : Option AV} {L2 : List (Nat × AV)} {St : List AV} {S : SS} : ev c 250 50 [l0, l1, l2, l3, l4, l5] L2 St S = ev c 250 51 [l0, l1, l2, l3, l4, l5] L2 (aI 0 :: St) S := ev_go i250_50 rfl
theorem i250_51 : insAt 250 51 = some (.ireturn, 1, (0, 0, 0, 0), 0) := rfl
theorem s250_51 {c : Nat → List AV → SS → Option Out} {l0 l1 l2 l3 l4 l5 : Option AV} {x : Int32} {L2 : List (Nat × AV)} {S : SS} : ev c 250 51 [l0, l1, l2, l3, l4, l5] L2 [aI x] S = some (.inl (some (aI x)), S) := ev_end i250_51 rfl
theorem i250_52 : insAt 250 52 = some (.iconst (-1), 1, (0, 0, 0, 0), 0) := rfl
theorem s250_52 {c : Nat → List AV → SS → Option Out} {l0 l1 l2 l3 l4 l5 : Option AV} {L2 : List (Nat × AV)} {St : List AV} {S : SS} : ev c 250 52 [l0, l1, l2, l3, l4, l5] L2 St S = ev c 250 53 [l0, l1, l2, l3, l4, l5] L2 (aI (-1) :: St) S := ev_go i250_52 rfl
theorem i250_53 : insAt 250 53 = some (.istore 4, 2, (0, 0, 0, 0), 0) := rfl
theorem s250_53 {c : Nat → List AV → SS → Option Out} {l0 l1 l2 l3 l4 l5 : Option AV} {x : Int32} {L2 : List (Nat × AV)} {St : List AV} {S : SS} : ev c 250 53 [l0, l1, l2, l3, l4, l5] L2 (aI x :: St) S = ev c 250 55 [l0, l1, l2, l3, some (aI x), l5] (kil L2 4) St S := ev_go i250_53 rfl
theorem i250_55 : insAt 250 55 = some (.iconst 0, 1, (0, 0, 0, 0), 0) := rfl
theorem s250_55 {c : Nat → List AV → SS → Option Out} {l0 l1 l2 l3 l4 l5 : Option AV} {L2 : List (Nat × AV)} {St : List AV} {S : SS} : ev c 250 55 [l0, l1, l2, l3, l4, l5] L2 St S = ev c 250 56 [l0, l1, l2, l3, l4, l5] L2 (aI 0 :: St) S := ev_go i250_55 rfl
theorem i250_56 : insAt 250 56 = some (.istore 5, 2, (0, 0, 0, 0), 0) := rfl
theorem s250_56 {c : Nat → List AV → SS → Option Out} {l0 l1 l2 l3 l4 l5 : Option AV} {x : Int32} {L2 : List (Nat × AV)} {St : List AV} {S : SS} : ev c 250 56 [l0, l1, l2, l3, l4, l5] L2 (aI x :: St) S = ev c 250 58 [l0, l1, l2, l3, l4, some (aI x)] (kil L2 5) St S := ev_go i250_56 rfl
theorem i250_58 : insAt 250 58 = some (.iload 5, 2, (0, 0, 0, 0), 0) := rfl
theorem s250_58 {c : Nat → List AV → SS → Option Out} {l0 l1 l2 l3 l4 : Option AV} {x : Int32} {L2 : List (Nat × AV)} {St : List AV} {S : SS} : ev c 250 58 [l0, l1, l2, l3, l4, some (aI x)] L2 St S = ev c 250 60 [l0, l1, l2, l3, l4, some (aI x)] L2 (aI x :: St) S := ev_go i250_58 rfl
theorem i250_60 : insAt 250 60 = some (.bipush 8, 2, (0, 0, 0, 0), 0) := rfl
theorem s250_60 {c : Nat → List AV → SS → Option Out} {l0 l1 l2 l3 l4 l5 : Option AV} {L2 : List (Nat × AV)} {St : List AV} {S : SS} : ev c 250 60 [l0, l1, l2, l3, l4, l5] L2 St S = ev c 250 62 [l0, l1, l2, l3, l4, l5] L2 (aI 8 :: St) S := ev_go i250_60 rfl
theorem i250_62 : insAt 250 62 = some (.if_icmp .ge 53, 3, (0, 0, 0, 0), 0) := rfl
theorem s250_62 {c : Nat → List AV → SS → Option Out} {l0 l1 l2 l3 l4 l5 : Option AV} {x y : Int32} {L2 : List (Nat × AV)} {St : List AV} {S : SS} : ev c 250 62 [l0, l1, l2, l3, l4, l5] L2 (aI y :: aI x :: St) S = if y ≤ x then ev c 250 115 [l0, l1, l2, l3, l4, l5] L2 St S else ev c 250 65 [l0, l1, l2, l3, l4, l5] L2 St S := ev_br i250_62 rfl
theorem i250_65 : insAt 250 65 = some (.aload_n 0, 1, (0, 0, 0, 0), 0) := rfl
theorem s250_65 {c : Nat → List AV → SS → Option Out} {l1 l2 l3 l4 l5 : Option AV} {o : OId} {L2 : List (Nat × AV)} {St : List AV} {S : SS} : ev c 250 65 [some (aR o), l1, l2, l3, l4, l5] L2 St S = ev c 250 66 [some (aR o), l1, l2, l3, l4, l5] L2 (aR o :: St) S := ev_go i250_65 rfl
theorem i250_66 : insAt 250 66 = some (.iload_n 1, 1, (0, 0, 0, 0), 0) := rfl
theorem s250_66 {c : Nat → List AV → SS → Option Out} {l0 l2 l3 l4 l5 : Option AV} {x : Int32} {L2 : List (Nat × AV)} {St : List AV} {S : SS} : ev c 250 66 [l0, some (aI x), l2, l3, l4, l5] L2 St S = ev c 250 67 [l0, some (aI x), l2, l3, l4, l5] L2 (aI x :: St) S := ev_go i250_66 rfl
theorem i250_67 : insAt 250 67 = some (.iload_n 2, 1, (0, 0, 0, 0), 0) := rfl
theorem s250_67 {c : Nat → List AV → SS → Option Out} {l0 l1 l3 l4 l5 : Option AV} {x : Int32} {L2 : List (Nat × AV)} {St : List AV} {S : SS} : ev c 250 67 [l0, l1, some (aI x), l3, l4, l5] L2 St S = ev c 250 68 [l0, l1, some (aI x), l3, l4, l5] L2 (aI x :: St) S := ev_go i250_67 rfl
theorem i250_68 : insAt 250 68 = some (.iload 5, 2, (0, 0, 0, 0), 0) := rfl
theorem s250_68 {c : Nat → List AV → SS → Option Out} {l0 l1 l2 l3 l4 : Option AV} {x : Int32} {L2 : List (Nat × AV)} {St : List AV} {S : SS} : ev c 250 68 [l0, l1, l2, l3, l4, some (aI x)] L2 St S = ev c 250 70 [l0, l1, l2, l3, l4, some (aI x)] L2 (aI x :: St) S := ev_go i250_68 rfl
theorem i250_70 : insAt 250 70 = some (.invokevirtual 170, 3, (251, 3, 2, 12), 413) := rfl
theorem s250_70 {c : Nat → List AV → SS → Option Out} {l0 l1 l2 l3 l4 l5 : Option AV} {a0 : Int32} {a1 : Int32} {a2 : Int32} {j t : Nat} {L2 : List (Nat × AV)} {S : SS} : ev c 250 70 [l0, l1, l2, l3, l4, l5] L2 [aI a2, aI a1, aI a0, aR (12, j, t)] S = ck (c 251 [aR (12, j, t), aI a0, aI a1, aI a2] S) (fun v S' => ev c 250 73 [l0, l1, l2, l3, l4, l5] L2 (v.toList ++ []) S') := ev_call i250_70 rfl
theorem i250_73 : insAt 250 73 = some (.ifCond .le 6, 3, (0, 0, 0, 0), 0) := rfl
theorem s250_73 {c : Nat → List AV → SS → Option Out} {l0 l1 l2 l3 l4 l5 : Option AV} {x : Int32} {L2 : List (Nat × AV)} {St : List AV} {S : SS} : ev c 250 73 [l0, l1, l2, l3, l4, l5] L2 (aI x :: St) S = if x ≤ 0 then ev c 250 79 [l0, l1, l2, l3, l4, l5] L2 St S else ev c 250 76 [l0, l1, l2, l3, l4, l5] L2 St S := ev_br i250_73 rfl
theorem i250_76 : insAt 250 76 = some (.goto 33, 3, (0, 0, 0, 0), 0) := rfl
theorem s250_76 {c : Nat → List AV → SS → Option Out} {l0 l1 l2 l3 l4 l5 : Option AV} {L2 : List (Nat × AV)} {St : List AV} {S : SS} : ev c 250 76 [l0, l1, l2, l3, l4, l5] L2 St S = ev c 250 109 [l0, l1, l2, l3, l4, l5] L2 St S := ev_go i250_76 rfl
theorem i250_79 : insAt 250 79 = some (.iload 4, 2, (0, 0, 0, 0), 0) := rfl
theorem s250_79 {c : Nat → List AV → SS → Option Out} {l0 l1 l2 l3 l5 : Option AV} {x : Int32} {L2 : List (Nat × AV)} {St : List AV} {S : SS} : ev c 250 79 [l0, l1, l2, l3, some (aI x), l5] L2 St S = ev c 250 81 [l0, l1, l2, l3, some (aI x), l5] L2 (aI x :: St) S := ev_go i250_79 rfl
theorem i250_81 : insAt 250 81 = some (.ifCond .lt 24, 3, (0, 0, 0, 0), 0) := rfl
theorem s250_81 {c : Nat → List AV → SS → Option Out} {l0 l1 l2 l3 l4 l5 : Option AV} {x : Int32} {L2 : List (Nat × AV)} {St : List AV} {S : SS} : ev c 250 81 [l0, l1, l2, l3, l4, l5] L2 (aI x :: St) S = if x < 0 then ev c 250 105 [l0, l1, l2, l3, l4, l5] L2 St S else ev c 250 84 [l0, l1, l2, l3, l4, l5] L2 St S := ev_br i250_81 rfl
theorem i250_84 : insAt 250 84 = some (.aload_n 0, 1, (0, 0, 0, 0), 0) := rfl
theorem s250_84 {c : Nat → List AV → SS → Option Out} {l1 l2 l3 l4 l5 : Option AV} {o : OId} {L2 : List (Nat × AV)} {St : List AV} {S : SS} : ev c 250 84 [some (aR o), l1, l2, l3, l4, l5] L2 St S = ev c 250 85 [some (aR o), l1, l2, l3, l4, l5] L2 (aR o :: St) S := ev_go i250_84 rfl
theorem i250_85 : insAt 250 85 = some (.iload_n 1, 1, (0, 0, 0, 0), 0) := rfl
theorem s250_85 {c : Nat → List AV → SS → Option Out} {l0 l2 l3 l4 l5 : Option AV} {x : Int32} {L2 : List (Nat × AV)} {St : List AV} {S : SS} : ev c 250 85 [l0, some (aI x), l2, l3, l4, l5] L2 St S = ev c 250 86 [l0, some (aI x), l2, l3, l4, l5] L2 (aI x :: St) S := ev_go i250_85 rfl
theorem i250_86 : insAt 250 86 = some (.iload_n 2, 1, (0, 0, 0, 0), 0) := rfl
theorem s250_86 {c : Nat → List AV → SS → Option Out} {l0 l1 l3 l4 l5 : Option AV} {x : Int32} {L2 : List (Nat × AV)} {St : List AV} {S : SS} : ev c 250 86 [l0, l1, some (aI x), l3, l4, l5] L2 St S = ev c 250 87 [l0, l1, some (aI x), l3, l4, l5] L2 (aI x :: St) S := ev_go i250_86 rfl
theorem i250_87 : insAt 250 87 = some (.iload 5, 2, (0, 0, 0, 0), 0) := rfl
theorem s250_87 {c : Nat → List AV → SS → Option Out} {l0 l1 l2 l3 l4 : Option AV} {x : Int32} {L2 : List (Nat × AV)} {St : List AV} {S : SS} : ev c 250 87 [l0, l1, l2, l3, l4, some (aI x)] L2 St S = ev c 250 89 [l0, l1, l2, l3, l4, some (aI x)] L2 (aI x :: St) S := ev_go i250_87 rfl
theorem i250_89 : insAt 250 89 = some (.iconst (-1), 1, (0, 0, 0, 0), 0) := rfl
theorem s250_89 {c : Nat → List AV → SS → Option Out} {l0 l1 l2 l3 l4 l5 : Option AV} {L2 : List (Nat × AV)} {St : List AV} {S : SS} : ev c 250 89 [l0, l1, l2, l3, l4, l5] L2 St S = ev c 250 90 [l0, l1, l2, l3, l4, l5] L2 (aI (-1) :: St) S := ev_go i250_89 rfl
theorem i250_90 : insAt 250 90 = some (.invokevirtual 125, 3, (238, 4, 2, 12), 399) := rfl
theorem s250_90 {c : Nat → List AV → SS → Option Out} {l0 l1 l2 l3 l4 l5 : Option AV} {a0 : Int32} {a1 : Int32} {a2 : Int32} {a3 : Int32} {j t : Nat} {L2 : List (Nat × AV)} {S : SS} : ev c 250 90 [l0, l1, l2, l3, l4, l5] L2 [aI a3, aI a2, aI a1, aI a0, aR (12, j, t)] S = ck (c 238 [aR (12, j, t), aI a0, aI a1, aI a2, aI a3] S) (fun v S' => ev c 250 93 [l0, l1, l2, l3, l4, l5] L2 (v.toList ++ []) S') := ev_call i250_90 rfl
theorem i250_93 : insAt 250 93 = some (.aload_n 0, 1, (0, 0, 0, 0), 0) := rfl
theorem s250_93 {c : Nat → List AV → SS → Option Out} {l1 l2 l3 l4 l5 : Option AV} {o : OId} {L2 : List (Nat × AV)} {St : List AV} {S : SS} : ev c 250 93 [some (aR o), l1, l2, l3, l4, l5] L2 St S = ev c 250 94 [some (aR o), l1, l2, l3, l4, l5] L2 (aR o :: St) S := ev_go i250_93 rfl
theorem i250_94 : insAt 250 94 = some (.iload_n 1, 1, (0, 0, 0, 0), 0) := rfl
theorem s250_94 {c : Nat → List AV → SS → Option Out} {l0 l2 l3 l4 l5 : Option AV} {x : Int32} {L2 : List (Nat × AV)} {St : List AV} {S : SS} : ev c 250 94 [l0, some (aI x), l2, l3, l4, l5] L2 St S = ev c 250 95 [l0, some (aI x), l2, l3, l4, l5] L2 (aI x :: St) S := ev_go i250_94 rfl
theorem i250_95 : insAt 250 95 = some (.iload_n 2, 1, (0, 0, 0, 0), 0) := rfl
theorem s250_95 {c : Nat → List AV → SS → Option Out} {l0 l1 l3 l4 l5 : Option AV} {x : Int32} {L2 : List (Nat × AV)} {St : List AV} {S : SS} : ev c 250 95 [l0, l1, some (aI x), l3, l4, l5] L2 St S = ev c 250 96 [l0, l1, some (aI x), l3, l4, l5] L2 (aI x :: St) S := ev_go i250_95 rfl
theorem i250_96 : insAt 250 96 = some (.iload 4, 2, (0, 0, 0, 0), 0) := rfl
theorem s250_96 {c : Nat → List AV → SS → Option Out} {l0 l1 l2 l3 l5 : Option AV} {x : Int32} {L2 : List (Nat × AV)} {St : List AV} {S : SS} : ev c 250 96 [l0, l1, l2, l3, some (aI x), l5] L2 St S = ev c 250 98 [l0, l1, l2, l3, some (aI x), l5] L2 (aI x :: St) S := ev_go i250_96 rfl
theorem i250_98 : insAt 250 98 = some (.iconst (-1), 1, (0, 0, 0, 0), 0) := rfl
theorem s250_98 {c : Nat → List AV → SS → Option Out} {l0 l1 l2 l3 l4 l5 : Option AV} {L2 : List (Nat × AV)} {St : List AV} {S : SS} : ev c 250 98 [l0, l1, l2, l3, l4, l5] L2 St S = ev c 250 99 [l0, l1, l2, l3, l4, l5] L2 (aI (-1) :: St) S := ev_go i250_98 rfl
theorem i250_99 : insAt 250 99 = some (.invokevirtual 125, 3, (238, 4, 2, 12), 399) := rfl
theorem s250_99 {c : Nat → List AV → SS → Option Out} {l0 l1 l2 l3 l4 l5 : Option AV} {t0 : AV} {a0 : Int32} {a1 : Int32} {a2 : Int32} {a3 : Int32} {j t : Nat} {L2 : List (Nat × AV)} {S : SS} : ev c 250 99 [l0, l1, l2, l3, l4, l5] L2 [aI a3, aI a2, aI a1, aI a0, aR (12, j, t), t0] S = ck (c 238 [aR (12, j, t), aI a0, aI a1, aI a2, aI a3] S) (fun v S' => ev c 250 102 [l0, l1, l2, l3, l4, l5] L2 (v.toList ++ [t0]) S') := ev_call i250_99 rfl
theorem i250_102 : insAt 250 102 = some (.if_icmp .ge 7, 3, (0, 0, 0, 0), 0) := rfl
theorem s250_102 {c : Nat → List AV → SS → Option Out} {l0 l1 l2 l3 l4 l5 : Option AV} {x y : Int32} {L2 : List (Nat × AV)} {St : List AV} {S : SS} : ev c 250 102 [l0, l1, l2, l3, l4, l5] L2 (aI y :: aI x :: St) S = if y ≤ x then ev c 250 109 [l0, l1, l2, l3, l4, l5] L2 St S else ev c 250 105 [l0, l1, l2, l3, l4, l5] L2 St S := ev_br i250_102 rfl
theorem i250_105 : insAt 250 105 = some (.iload 5, 2, (0, 0, 0, 0), 0) := rfl
theorem s250_105 {c : Nat → List AV → SS → Option Out} {l0 l1 l2 l3 l4 : Option AV} {x : Int32} {L2 : List (Nat × AV)} {St : List AV} {S : SS} : ev c 250 105 [l0, l1, l2, l3, l4, some (aI x)] L2 St S = ev c 250 107 [l0, l1, l2, l3, l4, some (aI x)] L2 (aI x :: St) S := ev_go i250_105 rfl
theorem i250_107 : insAt 250 107 = some (.istore 4, 2, (0, 0, 0, 0), 0) := rfl
theorem s250_107 {c : Nat → List AV → SS → Option Out} {l0 l1 l2 l3 l4 l5 : Option AV} {x : Int32} {L2 : List (Nat × AV)} {St : List AV} {S : SS} : ev c 250 107 [l0, l1, l2, l3, l4, l5] L2 (aI x :: St) S = ev c 250 109 [l0, l1, l2, l3, some (aI x), l5] (kil L2 4) St S := ev_go i250_107 rfl
theorem i250_109 : insAt 250 109 = some (.iinc 5 1, 3, (0, 0, 0, 0), 0) := rfl
theorem s250_109 {c : Nat → List AV → SS → Option Out} {l0 l1 l2 l3 l4 : Option AV} {x : Int32} {L2 : List (Nat × AV)} {St : List AV} {S : SS} : ev c 250 109 [l0, l1, l2, l3, l4, some (aI x)] L2 St S = ev c 250 112 [l0, l1, l2, l3, l4, some (aI (x + 1))] (kil L2 5) St S := ev_go i250_109 rfl
theorem i250_112 : insAt 250 112 = some (.goto (-54), 3, (0, 0, 0, 0), 0) := rfl
theorem s250_112 {c : Nat → List AV → SS → Option Out} {l0 l1 l2 l3 l4 l5 : Option AV} {L2 : List (Nat × AV)} {St : List AV} {S : SS} : ev c 250 112 [l0, l1, l2, l3, l4, l5] L2 St S = ev c 250 58 [l0, l1, l2, l3, l4, l5] L2 St S := ev_go i250_112 rfl
theorem i250_115 : insAt 250 115 = some (.aload_n 0, 1, (0, 0, 0, 0), 0) := rfl
theorem s250_115 {c : Nat → List AV → SS → Option Out} {l1 l2 l3 l4 l5 : Option AV} {o : OId} {L2 : List (Nat × AV)} {St : List AV} {S : SS} : ev c 250 115 [some (aR o), l1, l2, l3, l4, l5] L2 St S = ev c 250 116 [some (aR o), l1, l2, l3, l4, l5] L2 (aR o :: St) S := ev_go i250_115 rfl
theorem i250_116 : insAt 250 116 = some (.iload 4, 2, (0, 0, 0, 0), 0) := rfl
theorem s250_116 {c : Nat → List AV → SS → Option Out} {l0 l1 l2 l3 l5 : Option AV} {x : Int32} {L2 : List (Nat × AV)} {St : List AV} {S : SS} : ev c 250 116 [l0, l1, l2, l3, some (aI x), l5] L2 St S = ev c 250 118 [l0, l1, l2, l3, some (aI x), l5] L2 (aI x :: St) S := ev_go i250_116 rfl
theorem i250_118 : insAt 250 118 = some (.ifCond .ge 7, 3, (0, 0, 0, 0), 0) := rfl
theorem s250_118 {c : Nat → List AV → SS → Option Out} {l0 l1 l2 l3 l4 l5 : Option AV} {x : Int32} {L2 : List (Nat × AV)} {St : List AV} {S : SS} : ev c 250 118 [l0, l1, l2, l3, l4, l5] L2 (aI x :: St) S = if 0 ≤ x then ev c 250 125 [l0, l1, l2, l3, l4, l5] L2 St S else ev c 250 121 [l0, l1, l2, l3, l4, l5] L2 St S := ev_br i250_118 rfl
theorem i250_121 : insAt 250 121 = some (.iconst 3, 1, (0, 0, 0, 0), 0) := rfl
theorem s250_121 {c : Nat → List AV → SS → Option Out} {l0 l1 l2 l3 l4 l5 : Option AV} {L2 : List (Nat × AV)} {St : List AV} {S : SS} : ev c 250 121 [l0, l1, l2, l3, l4, l5] L2 St S = ev c 250 122 [l0, l1, l2, l3, l4, l5] L2 (aI 3 :: St) S := ev_go i250_121 rfl
theorem i250_122 : insAt 250 122 = some (.goto 4, 3, (0, 0, 0, 0), 0) := rfl
theorem s250_122 {c : Nat → List AV → SS → Option Out} {l0 l1 l2 l3 l4 l5 : Option AV} {L2 : List (Nat × AV)} {St : List AV} {S : SS} : ev c 250 122 [l0, l1, l2, l3, l4, l5] L2 St S = ev c 250 126 [l0, l1, l2, l3, l4, l5] L2 St S := ev_go i250_122 rfl
theorem i250_125 : insAt 250 125 = some (.iconst 0, 1, (0, 0, 0, 0), 0) := rfl
theorem s250_125 {c : Nat → List AV → SS → Option Out} {l0 l1 l2 l3 l4 l5 : Option AV} {L2 : List (Nat × AV)} {St : List AV} {S : SS} : ev c 250 125 [l0, l1, l2, l3, l4, l5] L2 St S = ev c 250 126 [l0, l1, l2, l3, l4, l5] L2 (aI 0 :: St) S := ev_go i250_125 rfl
theorem i250_126 : insAt 250 126 = some (.putfield 31, 3, (12, 7, 0, 0), 371) := rfl
theorem s250_126 {c : Nat → List AV → SS → Option Out} {l0 l1 l2 l3 l4 l5 : Option AV} {j t : Nat} {x : Int32} {L2 : List (Nat × AV)} {St : List AV} {S : SS} : ev c 250 126 [l0, l1, l2, l3, l4, l5] L2 (aI x :: aR (12, j, t) :: St) S = ev c 250 129 [l0, l1, l2, l3, l4, l5] L2 St (setI S.1 (12, j, t) 7 x, S.2) := ev_go i250_126 rfl
theorem i250_129 : insAt 250 129 = some (.aload_n 0, 1, (0, 0, 0, 0), 0) := rfl
theorem s250_129 {c : Nat → List AV → SS → Option Out} {l1 l2 l3 l4 l5 : Option AV} {o : OId} {L2 : List (Nat × AV)} {St : List AV} {S : SS} : ev c 250 129 [some (aR o), l1, l2, l3, l4, l5] L2 St S = ev c 250 130 [some (aR o), l1, l2, l3, l4, l5] L2 (aR o :: St) S := ev_go i250_129 rfl
theorem i250_130 : insAt 250 130 = some (.getfield 31, 3, (12, 7, 0, 0), 371) := rfl
theorem s250_130 {c : Nat → List AV → SS → Option Out} {l0 l1 l2 l3 l4 l5 : Option AV} {j t : Nat} {L2 : List (Nat × AV)} {St : List AV} {S : SS} : ev c 250 130 [l0, l1, l2, l3, l4, l5] L2 (aR (12, j, t) :: St) S = ev c 250 133 [l0, l1, l2, l3, l4, l5] L2 (aI (S.1 (12, j, t) 7) :: St) S := ev_go i250_130 rfl
theorem i250_133 : insAt 250 133 = some (.ifCond .le 5, 3, (0, 0, 0, 0), 0) := rfl
theorem s250_133 {c : Nat → List AV → SS → Option Out} {l0 l1 l2 l3 l4 l5 : Option AV} {x : Int32} {L2 : List (Nat × AV)} {St : List AV} {S : SS} : ev c 250 133 [l0, l1, l2, l3, l4, l5] L2 (aI x :: St) S = if x ≤ 0 then ev c 250 138 [l0, l1, l2, l3, l4, l5] L2 St S else ev c 250 136 [l0, l1, l2, l3, l4, l5] L2 St S := ev_br i250_133 rfl
theorem i250_136 : insAt 250 136 = some (.iconst 0, 1, (0, 0, 0, 0), 0) := rfl
theorem s250_136 {c : Nat → List AV → SS → Option Out} {l0 l1 l2 l3 l4 l5 : Option AV} {L2 : List (Nat × AV)} {St : List AV} {S : SS} : ev c 250 136 [l0, l1, l2, l3, l4, l5] L2 St S = ev c 250 137 [l0, l1, l2, l3, l4, l5] L2 (aI 0 :: St) S := ev_go i250_136 rfl
theorem i250_137 : insAt 250 137 = some (.ireturn, 1, (0, 0, 0, 0), 0) := rfl
theorem s250_137 {c : Nat → List AV → SS → Option Out} {l0 l1 l2 l3 l4 l5 : Option AV} {x : Int32} {L2 : List (Nat × AV)} {S : SS} : ev c 250 137 [l0, l1, l2, l3, l4, l5] L2 [aI x] S = some (.inl (some (aI x)), S) := ev_end i250_137 rfl
theorem i250_138 : insAt 250 138 = some (.aload_n 0, 1, (0, 0, 0, 0), 0) := rfl
theorem s250_138 {c : Nat → List AV → SS → Option Out} {l1 l2 l3 l4 l5 : Option AV} {o : OId} {L2 : List (Nat × AV)} {St : List AV} {S : SS} : ev c 250 138 [some (aR o), l1, l2, l3, l4, l5] L2 St S = ev c 250 139 [some (aR o), l1, l2, l3, l4, l5] L2 (aR o :: St) S := ev_go i250_138 rfl
theorem i250_139 : insAt 250 139 = some (.invokevirtual 86, 3, (217, 0, 2, 12), 384) := rfl
theorem s250_139 {c : Nat → List AV → SS → Option Out} {l0 l1 l2 l3 l4 l5 : Option AV} {j t : Nat} {L2 : List (Nat × AV)} {S : SS} : ev c 250 139 [l0, l1, l2, l3, l4, l5] L2 [aR (12, j, t)] S = ck (c 217 [aR (12, j, t)] S) (fun v S' => ev c 250 142 [l0, l1, l2, l3, l4, l5] L2 (v.toList ++ []) S') := ev_call i250_139 rfl
theorem i250_142 : insAt 250 142 = some (.aload_n 0, 1, (0, 0, 0, 0), 0) := rfl
theorem s250_142 {c : Nat → List AV → SS → Option Out} {l1 l2 l3 l4 l5 : Option AV} {o : OId} {L2 : List (Nat × AV)} {St : List AV} {S : SS} : ev c 250 142 [some (aR o), l1, l2, l3, l4, l5] L2 St S = ev c 250 143 [some (aR o), l1, l2, l3, l4, l5] L2 (aR o :: St) S := ev_go i250_142 rfl
theorem i250_143 : insAt 250 143 = some (.iload_n 1, 1, (0, 0, 0, 0), 0) := rfl
theorem s250_143 {c : Nat → List AV → SS → Option Out} {l0 l2 l3 l4 l5 : Option AV} {x : Int32} {L2 : List (Nat × AV)} {St : List AV} {S : SS} : ev c 250 143 [l0, some (aI x), l2, l3, l4, l5] L2 St S = ev c 250 144 [l0, some (aI x), l2, l3, l4, l5] L2 (aI x :: St) S := ev_go i250_143 rfl
theorem i250_144 : insAt 250 144 = some (.iload_n 2, 1, (0, 0, 0, 0), 0) := rfl
theorem s250_144 {c : Nat → List AV → SS → Option Out} {l0 l1 l3 l4 l5 : Option AV} {x : Int32} {L2 : List (Nat × AV)} {St : List AV} {S : SS} : ev c 250 144 [l0, l1, some (aI x), l3, l4, l5] L2 St S = ev c 250 145 [l0, l1, some (aI x), l3, l4, l5] L2 (aI x :: St) S := ev_go i250_144 rfl
theorem i250_145 : insAt 250 145 = some (.iload 4, 2, (0, 0, 0, 0), 0) := rfl
theorem s250_145 {c : Nat → List AV → SS → Option Out} {l0 l1 l2 l3 l5 : Option AV} {x : Int32} {L2 : List (Nat × AV)} {St : List AV} {S : SS} : ev c 250 145 [l0, l1, l2, l3, some (aI x), l5] L2 St S = ev c 250 147 [l0, l1, l2, l3, some (aI x), l5] L2 (aI x :: St) S := ev_go i250_145 rfl
theorem i250_147 : insAt 250 147 = some (.iload_n 3, 1, (0, 0, 0, 0), 0) := rfl
theorem s250_147 {c : Nat → List AV → SS → Option Out} {l0 l1 l2 l4 l5 : Option AV} {x : Int32} {L2 : List (Nat × AV)} {St : List AV} {S : SS} : ev c 250 147 [l0, l1, l2, some (aI x), l4, l5] L2 St S = ev c 250 148 [l0, l1, l2, some (aI x), l4, l5] L2 (aI x :: St) S := ev_go i250_147 rfl
theorem i250_148 : insAt 250 148 = some (.iconst 0, 1, (0, 0, 0, 0), 0) := rfl
theorem s250_148 {c : Nat → List AV → SS → Option Out} {l0 l1 l2 l3 l4 l5 : Option AV} {L2 : List (Nat × AV)} {St : List AV} {S : SS} : ev c 250 148 [l0, l1, l2, l3, l4, l5] L2 St S = ev c 250 149 [l0, l1, l2, l3, l4, l5] L2 (aI 0 :: St) S := ev_go i250_148 rfl
theorem i250_149 : insAt 250 149 = some (.invokevirtual 164, 3, (244, 5, 2, 12), 391) := rfl
theorem s250_149 {c : Nat → List AV → SS → Option Out} {l0 l1 l2 l3 l4 l5 : Option AV} {a0 : Int32} {a1 : Int32} {a2 : Int32} {a3 : Int32} {a4 : Int32} {j t : Nat} {L2 : List (Nat × AV)} {S : SS} : ev c 250 149 [l0, l1, l2, l3, l4, l5] L2 [aI a4, aI a3, aI a2, aI a1, aI a0, aR (12, j, t)] S = ck (c 244 [aR (12, j, t), aI a0, aI a1, aI a2, aI a3, aI a4] S) (fun v S' => ev c 250 152 [l0, l1, l2, l3, l4, l5] L2 (v.toList ++ []) S') := ev_call i250_149 rfl
theorem i250_152 : insAt 250 152 = some (.ireturn, 1, (0, 0, 0, 0), 0) := rfl
theorem s250_152 {c : Nat → List AV → SS → Option Out} {l0 l1 l2 l3 l4 l5 : Option AV} {x : Int32} {L2 : List (Nat × AV)} {S : SS} : ev c 250 152 [l0, l1, l2, l3, l4, l5] L2 [aI x] S = some (.inl (some (aI x)), S) := ev_end i250_152 rfl
theorem m250 {d : Nat} {o : OId} {a0 : Int32} {a1 : Int32} {a2 : Int32} {S : SS} : evm (d + 1) 250 [aR o, aI a0, aI a1, aI a2] S = ev (evm d) 250 0 [some (aR o), some (aI a0), some (aI a1), some (aI a2), none, none] [] [] S := evm_s (n := 6) rfl (Nat.le_of_ble_eq_true rfl) rfl rfl
/-! FrequencyOfficeModel.conflictsFor(III)I -/
theorem i251_0 : insAt 251 0 = some (.iconst 0, 1, (0, 0, 0, 0), 0) := rfl
theorem s251_0 {c : Nat → List AV → SS → Option Out} {l0 l1 l2 l3 l4 l5 : Option AV} {L2 : List (Nat × AV)} {St : List AV} {S : SS} : ev c 251 0 [l0, l1, l2, l3, l4, l5] L2 St S = ev c 251 1 [l0, l1, l2, l3, l4, l5] L2 (aI 0 :: St) S := ev_go i251_0 rfl
theorem i251_1 : insAt 251 1 = some (.istore 4, 2, (0, 0, 0, 0), 0) := rfl
theorem s251_1 {c : Nat → List AV → SS → Option Out} {l0 l1 l2 l3 l4 l5 : Option AV} {x : Int32} {L2 : List (Nat × AV)} {St : List AV} {S : SS} : ev c 251 1 [l0, l1, l2, l3, l4, l5] L2 (aI x :: St) S = ev c 251 3 [l0, l1, l2, l3, some (aI x), l5] (kil L2 4) St S := ev_go i251_1 rfl
theorem i251_3 : insAt 251 3 = some (.iconst 0, 1, (0, 0, 0, 0), 0) := rfl
theorem s251_3 {c : Nat → List AV → SS → Option Out} {l0 l1 l2 l3 l4 l5 : Option AV} {L2 : List (Nat × AV)} {St : List AV} {S : SS} : ev c 251 3 [l0, l1, l2, l3, l4, l5] L2 St S = ev c 251 4 [l0, l1, l2, l3, l4, l5] L2 (aI 0 :: St) S := ev_go i251_3 rfl
theorem i251_4 : insAt 251 4 = some (.istore 5, 2, (0, 0, 0, 0), 0) := rfl
theorem s251_4 {c : Nat → List AV → SS → Option Out} {l0 l1 l2 l3 l4 l5 : Option AV} {x : Int32} {L2 : List (Nat × AV)} {St : List AV} {S : SS} : ev c 251 4 [l0, l1, l2, l3, l4, l5] L2 (aI x :: St) S = ev c 251 6 [l0, l1, l2, l3, l4, some (aI x)] (kil L2 5) St S := ev_go i251_4 rfl
theorem i251_6 : insAt 251 6 = some (.iload 5, 2, (0, 0, 0, 0), 0) := rfl
theorem s251_6 {c : Nat → List AV → SS → Option Out} {l0 l1 l2 l3 l4 : Option AV} {x : Int32} {L2 : List (Nat × AV)} {St : List AV} {S : SS} : ev c 251 6 [l0, l1, l2, l3, l4, some (aI x)] L2 St S = ev c 251 8 [l0, l1, l2, l3, l4, some (aI x)] L2 (aI x :: St) S := ev_go i251_6 rfl
theorem i251_8 : insAt 251 8 = some (.aload_n 0, 1, (0, 0, 0, 0), 0) := rfl
theorem s251_8 {c : Nat → List AV → SS → Option Out} {l1 l2 l3 l4 l5 : Option AV} {o : OId} {L2 : List (Nat × AV)} {St : List AV} {S : SS} : ev c 251 8 [some (aR o), l1, l2, l3, l4, l5] L2 St S = ev c 251 9 [some (aR o), l1, l2, l3, l4, l5] L2 (aR o :: St) S := ev_go i251_8 rfl
theorem i251_9 : insAt 251 9 = some (.getfield 7, 3, (12, 0, 0, 0), 364) := rfl
theorem s251_9 {c : Nat → List AV → SS → Option Out} {l0 l1 l2 l3 l4 l5 : Option AV} {j t : Nat} {L2 : List (Nat × AV)} {St : List AV} {S : SS} : ev c 251 9 [l0, l1, l2, l3, l4, l5] L2 (aR (12, j, t) :: St) S = ev c 251 12 [l0, l1, l2, l3, l4, l5] L2 (S.2.2.1 (12, j, t) 0 :: St) S := ev_go i251_9 rfl
theorem i251_12 : insAt 251 12 = some (.bipush 7, 2, (0, 0, 0, 0), 0) := rfl
theorem s251_12 {c : Nat → List AV → SS → Option Out} {l0 l1 l2 l3 l4 l5 : Option AV} {L2 : List (Nat × AV)} {St : List AV} {S : SS} : ev c 251 12 [l0, l1, l2, l3, l4, l5] L2 St S = ev c 251 14 [l0, l1, l2, l3, l4, l5] L2 (aI 7 :: St) S := ev_go i251_12 rfl
theorem i251_14 : insAt 251 14 = some (.iaload, 1, (0, 0, 0, 0), 0) := rfl
theorem s251_14 {c : Nat → List AV → SS → Option Out} {l0 l1 l2 l3 l4 l5 : Option AV} {i : Int32} {o : OId} {L2 : List (Nat × AV)} {St : List AV} {S : SS} : ev c 251 14 [l0, l1, l2, l3, l4, l5] L2 (aI i :: aR o :: St) S = kI o i (ev c 251 15 [l0, l1, l2, l3, l4, l5] L2 (aI (agI S o i.toNatClampNeg) :: St) S) := ev_iaload i251_14
theorem i251_15 : insAt 251 15 = some (.if_icmp .ge 42, 3, (0, 0, 0, 0), 0) := rfl
theorem s251_15 {c : Nat → List AV → SS → Option Out} {l0 l1 l2 l3 l4 l5 : Option AV} {x y : Int32} {L2 : List (Nat × AV)} {St : List AV} {S : SS} : ev c 251 15 [l0, l1, l2, l3, l4, l5] L2 (aI y :: aI x :: St) S = if y ≤ x then ev c 251 57 [l0, l1, l2, l3, l4, l5] L2 St S else ev c 251 18 [l0, l1, l2, l3, l4, l5] L2 St S := ev_br i251_15 rfl
theorem i251_18 : insAt 251 18 = some (.iload 4, 2, (0, 0, 0, 0), 0) := rfl
theorem s251_18 {c : Nat → List AV → SS → Option Out} {l0 l1 l2 l3 l5 : Option AV} {x : Int32} {L2 : List (Nat × AV)} {St : List AV} {S : SS} : ev c 251 18 [l0, l1, l2, l3, some (aI x), l5] L2 St S = ev c 251 20 [l0, l1, l2, l3, some (aI x), l5] L2 (aI x :: St) S := ev_go i251_18 rfl
theorem i251_20 : insAt 251 20 = some (.aload_n 0, 1, (0, 0, 0, 0), 0) := rfl
theorem s251_20 {c : Nat → List AV → SS → Option Out} {l1 l2 l3 l4 l5 : Option AV} {o : OId} {L2 : List (Nat × AV)} {St : List AV} {S : SS} : ev c 251 20 [some (aR o), l1, l2, l3, l4, l5] L2 St S = ev c 251 21 [some (aR o), l1, l2, l3, l4, l5] L2 (aR o :: St) S := ev_go i251_20 rfl
theorem i251_21 : insAt 251 21 = some (.iload 5, 2, (0, 0, 0, 0), 0) := rfl
theorem s251_21 {c : Nat → List AV → SS → Option Out} {l0 l1 l2 l3 l4 : Option AV} {x : Int32} {L2 : List (Nat × AV)} {St : List AV} {S : SS} : ev c 251 21 [l0, l1, l2, l3, l4, some (aI x)] L2 St S = ev c 251 23 [l0, l1, l2, l3, l4, some (aI x)] L2 (aI x :: St) S := ev_go i251_21 rfl
theorem i251_23 : insAt 251 23 = some (.iconst 3, 1, (0, 0, 0, 0), 0) := rfl
theorem s251_23 {c : Nat → List AV → SS → Option Out} {l0 l1 l2 l3 l4 l5 : Option AV} {L2 : List (Nat × AV)} {St : List AV} {S : SS} : ev c 251 23 [l0, l1, l2, l3, l4, l5] L2 St S = ev c 251 24 [l0, l1, l2, l3, l4, l5] L2 (aI 3 :: St) S := ev_go i251_23 rfl
theorem i251_24 : insAt 251 24 = some (.invokevirtual 75, 3, (231, 2, 2, 12), 396) := rfl
theorem s251_24 {c : Nat → List AV → SS → Option Out} {l0 l1 l2 l3 l4 l5 : Option AV} {t0 : AV} {a0 : Int32} {a1 : Int32} {j t : Nat} {L2 : List (Nat × AV)} {S : SS} : ev c 251 24 [l0, l1, l2, l3, l4, l5] L2 [aI a1, aI a0, aR (12, j, t), t0] S = ck (c 231 [aR (12, j, t), aI a0, aI a1] S) (fun v S' => ev c 251 27 [l0, l1, l2, l3, l4, l5] L2 (v.toList ++ [t0]) S') := ev_call i251_24 rfl
theorem i251_27 : insAt 251 27 = some (.iload_n 3, 1, (0, 0, 0, 0), 0) := rfl
theorem s251_27 {c : Nat → List AV → SS → Option Out} {l0 l1 l2 l4 l5 : Option AV} {x : Int32} {L2 : List (Nat × AV)} {St : List AV} {S : SS} : ev c 251 27 [l0, l1, l2, some (aI x), l4, l5] L2 St S = ev c 251 28 [l0, l1, l2, some (aI x), l4, l5] L2 (aI x :: St) S := ev_go i251_27 rfl
theorem i251_28 : insAt 251 28 = some (.isub, 1, (0, 0, 0, 0), 0) := rfl
theorem s251_28 {c : Nat → List AV → SS → Option Out} {l0 l1 l2 l3 l4 l5 : Option AV} {x y : Int32} {L2 : List (Nat × AV)} {St : List AV} {S : SS} : ev c 251 28 [l0, l1, l2, l3, l4, l5] L2 (aI y :: aI x :: St) S = ev c 251 29 [l0, l1, l2, l3, l4, l5] L2 (aI (x - y) :: St) S := ev_go i251_28 rfl
theorem i251_29 : insAt 251 29 = some (.invokestatic 109, 3, (232, 1, 0, 0), 401) := rfl
theorem s251_29 {c : Nat → List AV → SS → Option Out} {l0 l1 l2 l3 l4 l5 : Option AV} {t0 : AV} {a0 : Int32} {L2 : List (Nat × AV)} {S : SS} : ev c 251 29 [l0, l1, l2, l3, l4, l5] L2 [aI a0, t0] S = ck (c 232 [aI a0] S) (fun v S' => ev c 251 32 [l0, l1, l2, l3, l4, l5] L2 (v.toList ++ [t0]) S') := ev_call i251_29 rfl
theorem i251_32 : insAt 251 32 = some (.aload_n 0, 1, (0, 0, 0, 0), 0) := rfl
theorem s251_32 {c : Nat → List AV → SS → Option Out} {l1 l2 l3 l4 l5 : Option AV} {o : OId} {L2 : List (Nat × AV)} {St : List AV} {S : SS} : ev c 251 32 [some (aR o), l1, l2, l3, l4, l5] L2 St S = ev c 251 33 [some (aR o), l1, l2, l3, l4, l5] L2 (aR o :: St) S := ev_go i251_32 rfl
theorem i251_33 : insAt 251 33 = some (.iload_n 1, 1, (0, 0, 0, 0), 0) := rfl
theorem s251_33 {c : Nat → List AV → SS → Option Out} {l0 l2 l3 l4 l5 : Option AV} {x : Int32} {L2 : List (Nat × AV)} {St : List AV} {S : SS} : ev c 251 33 [l0, some (aI x), l2, l3, l4, l5] L2 St S = ev c 251 34 [l0, some (aI x), l2, l3, l4, l5] L2 (aI x :: St) S := ev_go i251_33 rfl
theorem i251_34 : insAt 251 34 = some (.iload_n 2, 1, (0, 0, 0, 0), 0) := rfl
theorem s251_34 {c : Nat → List AV → SS → Option Out} {l0 l1 l3 l4 l5 : Option AV} {x : Int32} {L2 : List (Nat × AV)} {St : List AV} {S : SS} : ev c 251 34 [l0, l1, some (aI x), l3, l4, l5] L2 St S = ev c 251 35 [l0, l1, some (aI x), l3, l4, l5] L2 (aI x :: St) S := ev_go i251_34 rfl
theorem i251_35 : insAt 251 35 = some (.iload 5, 2, (0, 0, 0, 0), 0) := rfl
theorem s251_35 {c : Nat → List AV → SS → Option Out} {l0 l1 l2 l3 l4 : Option AV} {x : Int32} {L2 : List (Nat × AV)} {St : List AV} {S : SS} : ev c 251 35 [l0, l1, l2, l3, l4, some (aI x)] L2 St S = ev c 251 37 [l0, l1, l2, l3, l4, some (aI x)] L2 (aI x :: St) S := ev_go i251_35 rfl
theorem i251_37 : insAt 251 37 = some (.invokevirtual 100, 3, (234, 3, 2, 12), 403) := rfl
theorem s251_37 {c : Nat → List AV → SS → Option Out} {l0 l1 l2 l3 l4 l5 : Option AV} {t0 t1 : AV} {a0 : Int32} {a1 : Int32} {a2 : Int32} {j t : Nat} {L2 : List (Nat × AV)} {S : SS} : ev c 251 37 [l0, l1, l2, l3, l4, l5] L2 [aI a2, aI a1, aI a0, aR (12, j, t), t0, t1] S = ck (c 234 [aR (12, j, t), aI a0, aI a1, aI a2] S) (fun v S' => ev c 251 40 [l0, l1, l2, l3, l4, l5] L2 (v.toList ++ [t0, t1]) S') := ev_call i251_37 rfl
theorem i251_40 : insAt 251 40 = some (.if_icmp .ge 7, 3, (0, 0, 0, 0), 0) := rfl
theorem s251_40 {c : Nat → List AV → SS → Option Out} {l0 l1 l2 l3 l4 l5 : Option AV} {x y : Int32} {L2 : List (Nat × AV)} {St : List AV} {S : SS} : ev c 251 40 [l0, l1, l2, l3, l4, l5] L2 (aI y :: aI x :: St) S = if y ≤ x then ev c 251 47 [l0, l1, l2, l3, l4, l5] L2 St S else ev c 251 43 [l0, l1, l2, l3, l4, l5] L2 St S := ev_br i251_40 rfl
theorem i251_43 : insAt 251 43 = some (.iconst 1, 1, (0, 0, 0, 0), 0) := rfl
theorem s251_43 {c : Nat → List AV → SS → Option Out} {l0 l1 l2 l3 l4 l5 : Option AV} {L2 : List (Nat × AV)} {St : List AV} {S : SS} : ev c 251 43 [l0, l1, l2, l3, l4, l5] L2 St S = ev c 251 44 [l0, l1, l2, l3, l4, l5] L2 (aI 1 :: St) S := ev_go i251_43 rfl
theorem i251_44 : insAt 251 44 = some (.goto 4, 3, (0, 0, 0, 0), 0) := rfl
theorem s251_44 {c : Nat → List AV → SS → Option Out} {l0 l1 l2 l3 l4 l5 : Option AV} {L2 : List (Nat × AV)} {St : List AV} {S : SS} : ev c 251 44 [l0, l1, l2, l3, l4, l5] L2 St S = ev c 251 48 [l0, l1, l2, l3, l4, l5] L2 St S := ev_go i251_44 rfl
theorem i251_47 : insAt 251 47 = some (.iconst 0, 1, (0, 0, 0, 0), 0) := rfl
theorem s251_47 {c : Nat → List AV → SS → Option Out} {l0 l1 l2 l3 l4 l5 : Option AV} {L2 : List (Nat × AV)} {St : List AV} {S : SS} : ev c 251 47 [l0, l1, l2, l3, l4, l5] L2 St S = ev c 251 48 [l0, l1, l2, l3, l4, l5] L2 (aI 0 :: St) S := ev_go i251_47 rfl
theorem i251_48 : insAt 251 48 = some (.iadd, 1, (0, 0, 0, 0), 0) := rfl
theorem s251_48 {c : Nat → List AV → SS → Option Out} {l0 l1 l2 l3 l4 l5 : Option AV} {x y : Int32} {L2 : List (Nat × AV)} {St : List AV} {S : SS} : ev c 251 48 [l0, l1, l2, l3, l4, l5] L2 (aI y :: aI x :: St) S = ev c 251 49 [l0, l1, l2, l3, l4, l5] L2 (aI (x + y) :: St) S := ev_go i251_48 rfl
theorem i251_49 : insAt 251 49 = some (.istore 4, 2, (0, 0, 0, 0), 0) := rfl
theorem s251_49 {c : Nat → List AV → SS → Option Out} {l0 l1 l2 l3 l4 l5 : Option AV} {x : Int32} {L2 : List (Nat × AV)} {St : List AV} {S : SS} : ev c 251 49 [l0, l1, l2, l3, l4, l5] L2 (aI x :: St) S = ev c 251 51 [l0, l1, l2, l3, some (aI x), l5] (kil L2 4) St S := ev_go i251_49 rfl
theorem i251_51 : insAt 251 51 = some (.iinc 5 1, 3, (0, 0, 0, 0), 0) := rfl
theorem s251_51 {c : Nat → List AV → SS → Option Out} {l0 l1 l2 l3 l4 : Option AV} {x : Int32} {L2 : List (Nat × AV)} {St : List AV} {S : SS} : ev c 251 51 [l0, l1, l2, l3, l4, some (aI x)] L2 St S = ev c 251 54 [l0, l1, l2, l3, l4, some (aI (x + 1))] (kil L2 5) St S := ev_go i251_51 rfl
theorem i251_54 : insAt 251 54 = some (.goto (-48), 3, (0, 0, 0, 0), 0) := rfl
theorem s251_54 {c : Nat → List AV → SS → Option Out} {l0 l1 l2 l3 l4 l5 : Option AV} {L2 : List (Nat × AV)} {St : List AV} {S : SS} : ev c 251 54 [l0, l1, l2, l3, l4, l5] L2 St S = ev c 251 6 [l0, l1, l2, l3, l4, l5] L2 St S := ev_go i251_54 rfl
theorem i251_57 : insAt 251 57 = some (.iload 4, 2, (0, 0, 0, 0), 0) := rfl
theorem s251_57 {c : Nat → List AV → SS → Option Out} {l0 l1 l2 l3 l5 : Option AV} {x : Int32} {L2 : List (Nat × AV)} {St : List AV} {S : SS} : ev c 251 57 [l0, l1, l2, l3, some (aI x), l5] L2 St S = ev c 251 59 [l0, l1, l2, l3, some (aI x), l5] L2 (aI x :: St) S := ev_go i251_57 rfl
theorem i251_59 : insAt 251 59 = some (.ireturn, 1, (0, 0, 0, 0), 0) := rfl
theorem s251_59 {c : Nat → List AV → SS → Option Out} {l0 l1 l2 l3 l4 l5 : Option AV} {x : Int32} {L2 : List (Nat × AV)} {S : SS} : ev c 251 59 [l0, l1, l2, l3, l4, l5] L2 [aI x] S = some (.inl (some (aI x)), S) := ev_end i251_59 rfl
theorem m251 {d : Nat} {o : OId} {a0 : Int32} {a1 : Int32} {a2 : Int32} {S : SS} : evm (d + 1) 251 [aR o, aI a0, aI a1, aI a2] S = ev (evm d) 251 0 [some (aR o), some (aI a0), some (aI a1), some (aI a2), none, none] [] [] S := evm_s (n := 6) rfl (Nat.le_of_ble_eq_true rfl) rfl rfl
/-! FrequencyOfficeModel.confirm(II)I -/
theorem i252_0 : insAt 252 0 = some (.aload_n 0, 1, (0, 0, 0, 0), 0) := rfl
theorem s252_0 {c : Nat → List AV → SS → Option Out} {l1 l2 l3 : Option AV} {o : OId} {L2 : List (Nat × AV)} {St : List AV} {S : SS} : ev c 252 0 [some (aR o), l1, l2, l3] L2 St S = ev c 252 1 [some (aR o), l1, l2, l3] L2 (aR o :: St) S := ev_go i252_0 rfl
theorem i252_1 : insAt 252 1 = some (.iload_n 1, 1, (0, 0, 0, 0), 0) := rfl
theorem s252_1 {c : Nat → List AV → SS → Option Out} {l0 l2 l3 : Option AV} {x : Int32} {L2 : List (Nat × AV)} {St : List AV} {S : SS} : ev c 252 1 [l0, some (aI x), l2, l3] L2 St S = ev c 252 2 [l0, some (aI x), l2, l3] L2 (aI x :: St) S := ev_go i252_1 rfl
theorem i252_2 : insAt 252 2 = some (.invokevirtual 173, 3, (253, 1, 2, 12), 414) := rfl
theorem s252_2 {c : Nat → List AV → SS → Option Out} {l0 l1 l2 l3 : Option AV} {a0 : Int32} {j t : Nat} {L2 : List (Nat × AV)} {S : SS} : ev c 252 2 [l0, l1, l2, l3] L2 [aI a0, aR (12, j, t)] S = ck (c 253 [aR (12, j, t), aI a0] S) (fun v S' => ev c 252 5 [l0, l1, l2, l3] L2 (v.toList ++ []) S') := ev_call i252_2 rfl
theorem i252_5 : insAt 252 5 = some (.istore_n 3, 1, (0, 0, 0, 0), 0) := rfl
theorem s252_5 {c : Nat → List AV → SS → Option Out} {l0 l1 l2 l3 : Option AV} {x : Int32} {L2 : List (Nat × AV)} {St : List AV} {S : SS} : ev c 252 5 [l0, l1, l2, l3] L2 (aI x :: St) S = ev c 252 6 [l0, l1, l2, some (aI x)] (kil L2 3) St S := ev_go i252_5 rfl
theorem i252_6 : insAt 252 6 = some (.aload_n 0, 1, (0, 0, 0, 0), 0) := rfl
theorem s252_6 {c : Nat → List AV → SS → Option Out} {l1 l2 l3 : Option AV} {o : OId} {L2 : List (Nat × AV)} {St : List AV} {S : SS} : ev c 252 6 [some (aR o), l1, l2, l3] L2 St S = ev c 252 7 [some (aR o), l1, l2, l3] L2 (aR o :: St) S := ev_go i252_6 rfl
theorem i252_7 : insAt 252 7 = some (.iload_n 3, 1, (0, 0, 0, 0), 0) := rfl
theorem s252_7 {c : Nat → List AV → SS → Option Out} {l0 l1 l2 : Option AV} {x : Int32} {L2 : List (Nat × AV)} {St : List AV} {S : SS} : ev c 252 7 [l0, l1, l2, some (aI x)] L2 St S = ev c 252 8 [l0, l1, l2, some (aI x)] L2 (aI x :: St) S := ev_go i252_7 rfl
theorem i252_8 : insAt 252 8 = some (.ifCond .ge 7, 3, (0, 0, 0, 0), 0) := rfl
theorem s252_8 {c : Nat → List AV → SS → Option Out} {l0 l1 l2 l3 : Option AV} {x : Int32} {L2 : List (Nat × AV)} {St : List AV} {S : SS} : ev c 252 8 [l0, l1, l2, l3] L2 (aI x :: St) S = if 0 ≤ x then ev c 252 15 [l0, l1, l2, l3] L2 St S else ev c 252 11 [l0, l1, l2, l3] L2 St S := ev_br i252_8 rfl
theorem i252_11 : insAt 252 11 = some (.iconst 1, 1, (0, 0, 0, 0), 0) := rfl
theorem s252_11 {c : Nat → List AV → SS → Option Out} {l0 l1 l2 l3 : Option AV} {L2 : List (Nat × AV)} {St : List AV} {S : SS} : ev c 252 11 [l0, l1, l2, l3] L2 St S = ev c 252 12 [l0, l1, l2, l3] L2 (aI 1 :: St) S := ev_go i252_11 rfl
theorem i252_12 : insAt 252 12 = some (.goto 31, 3, (0, 0, 0, 0), 0) := rfl
theorem s252_12 {c : Nat → List AV → SS → Option Out} {l0 l1 l2 l3 : Option AV} {L2 : List (Nat × AV)} {St : List AV} {S : SS} : ev c 252 12 [l0, l1, l2, l3] L2 St S = ev c 252 43 [l0, l1, l2, l3] L2 St S := ev_go i252_12 rfl
theorem i252_15 : insAt 252 15 = some (.iload_n 2, 1, (0, 0, 0, 0), 0) := rfl
theorem s252_15 {c : Nat → List AV → SS → Option Out} {l0 l1 l3 : Option AV} {x : Int32} {L2 : List (Nat × AV)} {St : List AV} {S : SS} : ev c 252 15 [l0, l1, some (aI x), l3] L2 St S = ev c 252 16 [l0, l1, some (aI x), l3] L2 (aI x :: St) S := ev_go i252_15 rfl
theorem i252_16 : insAt 252 16 = some (.iconst 1, 1, (0, 0, 0, 0), 0) := rfl
theorem s252_16 {c : Nat → List AV → SS → Option Out} {l0 l1 l2 l3 : Option AV} {L2 : List (Nat × AV)} {St : List AV} {S : SS} : ev c 252 16 [l0, l1, l2, l3] L2 St S = ev c 252 17 [l0, l1, l2, l3] L2 (aI 1 :: St) S := ev_go i252_16 rfl
theorem i252_17 : insAt 252 17 = some (.sipush 365, 3, (0, 0, 0, 0), 0) := rfl
theorem s252_17 {c : Nat → List AV → SS → Option Out} {l0 l1 l2 l3 : Option AV} {L2 : List (Nat × AV)} {St : List AV} {S : SS} : ev c 252 17 [l0, l1, l2, l3] L2 St S = ev c 252 20 [l0, l1, l2, l3] L2 (aI 365 :: St) S := ev_go i252_17 rfl
theorem i252_20 : insAt 252 20 = some (.invokestatic 154, 3, (225, 3, 0, 0), 388) := rfl
theorem s252_20 {c : Nat → List AV → SS → Option Out} {l0 l1 l2 l3 : Option AV} {t0 : AV} {a0 : Int32} {a1 : Int32} {a2 : Int32} {L2 : List (Nat × AV)} {S : SS} : ev c 252 20 [l0, l1, l2, l3] L2 [aI a2, aI a1, aI a0, t0] S = ck (c 225 [aI a0, aI a1, aI a2] S) (fun v S' => ev c 252 23 [l0, l1, l2, l3] L2 (v.toList ++ [t0]) S') := ev_call i252_20 rfl
theorem i252_23 : insAt 252 23 = some (.ifCond .ne 7, 3, (0, 0, 0, 0), 0) := rfl
theorem s252_23 {c : Nat → List AV → SS → Option Out} {l0 l1 l2 l3 : Option AV} {x : Int32} {L2 : List (Nat × AV)} {St : List AV} {S : SS} : ev c 252 23 [l0, l1, l2, l3] L2 (aI x :: St) S = if x = 0 then ev c 252 26 [l0, l1, l2, l3] L2 St S else ev c 252 30 [l0, l1, l2, l3] L2 St S := (ev_br i252_23 rfl).trans (ite_not _ _ _)
theorem i252_26 : insAt 252 26 = some (.iconst 2, 1, (0, 0, 0, 0), 0) := rfl
theorem s252_26 {c : Nat → List AV → SS → Option Out} {l0 l1 l2 l3 : Option AV} {L2 : List (Nat × AV)} {St : List AV} {S : SS} : ev c 252 26 [l0, l1, l2, l3] L2 St S = ev c 252 27 [l0, l1, l2, l3] L2 (aI 2 :: St) S := ev_go i252_26 rfl
theorem i252_27 : insAt 252 27 = some (.goto 16, 3, (0, 0, 0, 0), 0) := rfl
theorem s252_27 {c : Nat → List AV → SS → Option Out} {l0 l1 l2 l3 : Option AV} {L2 : List (Nat × AV)} {St : List AV} {S : SS} : ev c 252 27 [l0, l1, l2, l3] L2 St S = ev c 252 43 [l0, l1, l2, l3] L2 St S := ev_go i252_27 rfl
theorem i252_30 : insAt 252 30 = some (.aload_n 0, 1, (0, 0, 0, 0), 0) := rfl
theorem s252_30 {c : Nat → List AV → SS → Option Out} {l1 l2 l3 : Option AV} {o : OId} {L2 : List (Nat × AV)} {St : List AV} {S : SS} : ev c 252 30 [some (aR o), l1, l2, l3] L2 St S = ev c 252 31 [some (aR o), l1, l2, l3] L2 (aR o :: St) S := ev_go i252_30 rfl
theorem i252_31 : insAt 252 31 = some (.iload_n 3, 1, (0, 0, 0, 0), 0) := rfl
theorem s252_31 {c : Nat → List AV → SS → Option Out} {l0 l1 l2 : Option AV} {x : Int32} {L2 : List (Nat × AV)} {St : List AV} {S : SS} : ev c 252 31 [l0, l1, l2, some (aI x)] L2 St S = ev c 252 32 [l0, l1, l2, some (aI x)] L2 (aI x :: St) S := ev_go i252_31 rfl
theorem i252_32 : insAt 252 32 = some (.invokevirtual 115, 3, (230, 1, 2, 12), 400) := rfl
theorem s252_32 {c : Nat → List AV → SS → Option Out} {l0 l1 l2 l3 : Option AV} {t0 : AV} {a0 : Int32} {j t : Nat} {L2 : List (Nat × AV)} {S : SS} : ev c 252 32 [l0, l1, l2, l3] L2 [aI a0, aR (12, j, t), t0] S = ck (c 230 [aR (12, j, t), aI a0] S) (fun v S' => ev c 252 35 [l0, l1, l2, l3] L2 (v.toList ++ [t0]) S') := ev_call i252_32 rfl
theorem i252_35 : insAt 252 35 = some (.ifCond .eq 7, 3, (0, 0, 0, 0), 0) := rfl
theorem s252_35 {c : Nat → List AV → SS → Option Out} {l0 l1 l2 l3 : Option AV} {x : Int32} {L2 : List (Nat × AV)} {St : List AV} {S : SS} : ev c 252 35 [l0, l1, l2, l3] L2 (aI x :: St) S = if x = 0 then ev c 252 42 [l0, l1, l2, l3] L2 St S else ev c 252 38 [l0, l1, l2, l3] L2 St S := ev_br i252_35 rfl
theorem i252_38 : insAt 252 38 = some (.iconst 3, 1, (0, 0, 0, 0), 0) := rfl
theorem s252_38 {c : Nat → List AV → SS → Option Out} {l0 l1 l2 l3 : Option AV} {L2 : List (Nat × AV)} {St : List AV} {S : SS} : ev c 252 38 [l0, l1, l2, l3] L2 St S = ev c 252 39 [l0, l1, l2, l3] L2 (aI 3 :: St) S := ev_go i252_38 rfl
theorem i252_39 : insAt 252 39 = some (.goto 4, 3, (0, 0, 0, 0), 0) := rfl
theorem s252_39 {c : Nat → List AV → SS → Option Out} {l0 l1 l2 l3 : Option AV} {L2 : List (Nat × AV)} {St : List AV} {S : SS} : ev c 252 39 [l0, l1, l2, l3] L2 St S = ev c 252 43 [l0, l1, l2, l3] L2 St S := ev_go i252_39 rfl
theorem i252_42 : insAt 252 42 = some (.iconst 0, 1, (0, 0, 0, 0), 0) := rfl
theorem s252_42 {c : Nat → List AV → SS → Option Out} {l0 l1 l2 l3 : Option AV} {L2 : List (Nat × AV)} {St : List AV} {S : SS} : ev c 252 42 [l0, l1, l2, l3] L2 St S = ev c 252 43 [l0, l1, l2, l3] L2 (aI 0 :: St) S := ev_go i252_42 rfl
theorem i252_43 : insAt 252 43 = some (.putfield 31, 3, (12, 7, 0, 0), 371) := rfl
theorem s252_43 {c : Nat → List AV → SS → Option Out} {l0 l1 l2 l3 : Option AV} {j t : Nat} {x : Int32} {L2 : List (Nat × AV)} {St : List AV} {S : SS} : ev c 252 43 [l0, l1, l2, l3] L2 (aI x :: aR (12, j, t) :: St) S = ev c 252 46 [l0, l1, l2, l3] L2 St (setI S.1 (12, j, t) 7 x, S.2) := ev_go i252_43 rfl
theorem i252_46 : insAt 252 46 = some (.aload_n 0, 1, (0, 0, 0, 0), 0) := rfl
theorem s252_46 {c : Nat → List AV → SS → Option Out} {l1 l2 l3 : Option AV} {o : OId} {L2 : List (Nat × AV)} {St : List AV} {S : SS} : ev c 252 46 [some (aR o), l1, l2, l3] L2 St S = ev c 252 47 [some (aR o), l1, l2, l3] L2 (aR o :: St) S := ev_go i252_46 rfl
theorem i252_47 : insAt 252 47 = some (.getfield 31, 3, (12, 7, 0, 0), 371) := rfl
theorem s252_47 {c : Nat → List AV → SS → Option Out} {l0 l1 l2 l3 : Option AV} {j t : Nat} {L2 : List (Nat × AV)} {St : List AV} {S : SS} : ev c 252 47 [l0, l1, l2, l3] L2 (aR (12, j, t) :: St) S = ev c 252 50 [l0, l1, l2, l3] L2 (aI (S.1 (12, j, t) 7) :: St) S := ev_go i252_47 rfl
theorem i252_50 : insAt 252 50 = some (.ifCond .le 5, 3, (0, 0, 0, 0), 0) := rfl
theorem s252_50 {c : Nat → List AV → SS → Option Out} {l0 l1 l2 l3 : Option AV} {x : Int32} {L2 : List (Nat × AV)} {St : List AV} {S : SS} : ev c 252 50 [l0, l1, l2, l3] L2 (aI x :: St) S = if x ≤ 0 then ev c 252 55 [l0, l1, l2, l3] L2 St S else ev c 252 53 [l0, l1, l2, l3] L2 St S := ev_br i252_50 rfl
theorem i252_53 : insAt 252 53 = some (.iconst 0, 1, (0, 0, 0, 0), 0) := rfl
theorem s252_53 {c : Nat → List AV → SS → Option Out} {l0 l1 l2 l3 : Option AV} {L2 : List (Nat × AV)} {St : List AV} {S : SS} : ev c 252 53 [l0, l1, l2, l3] L2 St S = ev c 252 54 [l0, l1, l2, l3] L2 (aI 0 :: St) S := ev_go i252_53 rfl
theorem i252_54 : insAt 252 54 = some (.ireturn, 1, (0, 0, 0, 0), 0) := rfl
theorem s252_54 {c : Nat → List AV → SS → Option Out} {l0 l1 l2 l3 : Option AV} {x : Int32} {L2 : List (Nat × AV)} {S : SS} : ev c 252 54 [l0, l1, l2, l3] L2 [aI x] S = some (.inl (some (aI x)), S) := ev_end i252_54 rfl
theorem i252_55 : insAt 252 55 = some (.aload_n 0, 1, (0, 0, 0, 0), 0) := rfl
theorem s252_55 {c : Nat → List AV → SS → Option Out} {l1 l2 l3 : Option AV} {o : OId} {L2 : List (Nat × AV)} {St : List AV} {S : SS} : ev c 252 55 [some (aR o), l1, l2, l3] L2 St S = ev c 252 56 [some (aR o), l1, l2, l3] L2 (aR o :: St) S := ev_go i252_55 rfl
theorem i252_56 : insAt 252 56 = some (.invokevirtual 86, 3, (217, 0, 2, 12), 384) := rfl
theorem s252_56 {c : Nat → List AV → SS → Option Out} {l0 l1 l2 l3 : Option AV} {j t : Nat} {L2 : List (Nat × AV)} {S : SS} : ev c 252 56 [l0, l1, l2, l3] L2 [aR (12, j, t)] S = ck (c 217 [aR (12, j, t)] S) (fun v S' => ev c 252 59 [l0, l1, l2, l3] L2 (v.toList ++ []) S') := ev_call i252_56 rfl
theorem i252_59 : insAt 252 59 = some (.aload_n 0, 1, (0, 0, 0, 0), 0) := rfl
theorem s252_59 {c : Nat → List AV → SS → Option Out} {l1 l2 l3 : Option AV} {o : OId} {L2 : List (Nat × AV)} {St : List AV} {S : SS} : ev c 252 59 [some (aR o), l1, l2, l3] L2 St S = ev c 252 60 [some (aR o), l1, l2, l3] L2 (aR o :: St) S := ev_go i252_59 rfl
theorem i252_60 : insAt 252 60 = some (.iload_n 3, 1, (0, 0, 0, 0), 0) := rfl
theorem s252_60 {c : Nat → List AV → SS → Option Out} {l0 l1 l2 : Option AV} {x : Int32} {L2 : List (Nat × AV)} {St : List AV} {S : SS} : ev c 252 60 [l0, l1, l2, some (aI x)] L2 St S = ev c 252 61 [l0, l1, l2, some (aI x)] L2 (aI x :: St) S := ev_go i252_60 rfl
theorem i252_61 : insAt 252 61 = some (.iconst 5, 1, (0, 0, 0, 0), 0) := rfl
theorem s252_61 {c : Nat → List AV → SS → Option Out} {l0 l1 l2 l3 : Option AV} {L2 : List (Nat × AV)} {St : List AV} {S : SS} : ev c 252 61 [l0, l1, l2, l3] L2 St S = ev c 252 62 [l0, l1, l2, l3] L2 (aI 5 :: St) S := ev_go i252_61 rfl
theorem i252_62 : insAt 252 62 = some (.iconst 1, 1, (0, 0, 0, 0), 0) := rfl
theorem s252_62 {c : Nat → List AV → SS → Option Out} {l0 l1 l2 l3 : Option AV} {L2 : List (Nat × AV)} {St : List AV} {S : SS} : ev c 252 62 [l0, l1, l2, l3] L2 St S = ev c 252 63 [l0, l1, l2, l3] L2 (aI 1 :: St) S := ev_go i252_62 rfl
theorem i252_63 : insAt 252 63 = some (.invokevirtual 79, 3, (242, 3, 2, 12), 397) := rfl
theorem s252_63 {c : Nat → List AV → SS → Option Out} {l0 l1 l2 l3 : Option AV} {a0 : Int32} {a1 : Int32} {a2 : Int32} {j t : Nat} {L2 : List (Nat × AV)} {S : SS} : ev c 252 63 [l0, l1, l2, l3] L2 [aI a2, aI a1, aI a0, aR (12, j, t)] S = ck (c 242 [aR (12, j, t), aI a0, aI a1, aI a2] S) (fun v S' => ev c 252 66 [l0, l1, l2, l3] L2 (v.toList ++ []) S') := ev_call i252_63 rfl
theorem i252_66 : insAt 252 66 = some (.aload_n 0, 1, (0, 0, 0, 0), 0) := rfl
theorem s252_66 {c : Nat → List AV → SS → Option Out} {l1 l2 l3 : Option AV} {o : OId} {L2 : List (Nat × AV)} {St : List AV} {S : SS} : ev c 252 66 [some (aR o), l1, l2, l3] L2 St S = ev c 252 67 [some (aR o), l1, l2, l3] L2 (aR o :: St) S := ev_go i252_66 rfl
theorem i252_67 : insAt 252 67 = some (.iload_n 3, 1, (0, 0, 0, 0), 0) := rfl
theorem s252_67 {c : Nat → List AV → SS → Option Out} {l0 l1 l2 : Option AV} {x : Int32} {L2 : List (Nat × AV)} {St : List AV} {S : SS} : ev c 252 67 [l0, l1, l2, some (aI x)] L2 St S = ev c 252 68 [l0, l1, l2, some (aI x)] L2 (aI x :: St) S := ev_go i252_67 rfl
theorem i252_68 : insAt 252 68 = some (.iconst 4, 1, (0, 0, 0, 0), 0) := rfl
theorem s252_68 {c : Nat → List AV → SS → Option Out} {l0 l1 l2 l3 : Option AV} {L2 : List (Nat × AV)} {St : List AV} {S : SS} : ev c 252 68 [l0, l1, l2, l3] L2 St S = ev c 252 69 [l0, l1, l2, l3] L2 (aI 4 :: St) S := ev_go i252_68 rfl
theorem i252_69 : insAt 252 69 = some (.aload_n 0, 1, (0, 0, 0, 0), 0) := rfl
theorem s252_69 {c : Nat → List AV → SS → Option Out} {l1 l2 l3 : Option AV} {o : OId} {L2 : List (Nat × AV)} {St : List AV} {S : SS} : ev c 252 69 [some (aR o), l1, l2, l3] L2 St S = ev c 252 70 [some (aR o), l1, l2, l3] L2 (aR o :: St) S := ev_go i252_69 rfl
theorem i252_70 : insAt 252 70 = some (.getfield 7, 3, (12, 0, 0, 0), 364) := rfl
theorem s252_70 {c : Nat → List AV → SS → Option Out} {l0 l1 l2 l3 : Option AV} {j t : Nat} {L2 : List (Nat × AV)} {St : List AV} {S : SS} : ev c 252 70 [l0, l1, l2, l3] L2 (aR (12, j, t) :: St) S = ev c 252 73 [l0, l1, l2, l3] L2 (S.2.2.1 (12, j, t) 0 :: St) S := ev_go i252_70 rfl
theorem i252_73 : insAt 252 73 = some (.iconst 3, 1, (0, 0, 0, 0), 0) := rfl
theorem s252_73 {c : Nat → List AV → SS → Option Out} {l0 l1 l2 l3 : Option AV} {L2 : List (Nat × AV)} {St : List AV} {S : SS} : ev c 252 73 [l0, l1, l2, l3] L2 St S = ev c 252 74 [l0, l1, l2, l3] L2 (aI 3 :: St) S := ev_go i252_73 rfl
theorem i252_74 : insAt 252 74 = some (.iaload, 1, (0, 0, 0, 0), 0) := rfl
theorem s252_74 {c : Nat → List AV → SS → Option Out} {l0 l1 l2 l3 : Option AV} {i : Int32} {o : OId} {L2 : List (Nat × AV)} {St : List AV} {S : SS} : ev c 252 74 [l0, l1, l2, l3] L2 (aI i :: aR o :: St) S = kI o i (ev c 252 75 [l0, l1, l2, l3] L2 (aI (agI S o i.toNatClampNeg) :: St) S) := ev_iaload i252_74
theorem i252_75 : insAt 252 75 = some (.iload_n 2, 1, (0, 0, 0, 0), 0) := rfl
theorem s252_75 {c : Nat → List AV → SS → Option Out} {l0 l1 l3 : Option AV} {x : Int32} {L2 : List (Nat × AV)} {St : List AV} {S : SS} : ev c 252 75 [l0, l1, some (aI x), l3] L2 St S = ev c 252 76 [l0, l1, some (aI x), l3] L2 (aI x :: St) S := ev_go i252_75 rfl
theorem i252_76 : insAt 252 76 = some (.iadd, 1, (0, 0, 0, 0), 0) := rfl
theorem s252_76 {c : Nat → List AV → SS → Option Out} {l0 l1 l2 l3 : Option AV} {x y : Int32} {L2 : List (Nat × AV)} {St : List AV} {S : SS} : ev c 252 76 [l0, l1, l2, l3] L2 (aI y :: aI x :: St) S = ev c 252 77 [l0, l1, l2, l3] L2 (aI (x + y) :: St) S := ev_go i252_76 rfl
theorem i252_77 : insAt 252 77 = some (.invokevirtual 79, 3, (242, 3, 2, 12), 397) := rfl
theorem s252_77 {c : Nat → List AV → SS → Option Out} {l0 l1 l2 l3 : Option AV} {a0 : Int32} {a1 : Int32} {a2 : Int32} {j t : Nat} {L2 : List (Nat × AV)} {S : SS} : ev c 252 77 [l0, l1, l2, l3] L2 [aI a2, aI a1, aI a0, aR (12, j, t)] S = ck (c 242 [aR (12, j, t), aI a0, aI a1, aI a2] S) (fun v S' => ev c 252 80 [l0, l1, l2, l3] L2 (v.toList ++ []) S') := ev_call i252_77 rfl
theorem i252_80 : insAt 252 80 = some (.aload_n 0, 1, (0, 0, 0, 0), 0) := rfl
theorem s252_80 {c : Nat → List AV → SS → Option Out} {l1 l2 l3 : Option AV} {o : OId} {L2 : List (Nat × AV)} {St : List AV} {S : SS} : ev c 252 80 [some (aR o), l1, l2, l3] L2 St S = ev c 252 81 [some (aR o), l1, l2, l3] L2 (aR o :: St) S := ev_go i252_80 rfl
theorem i252_81 : insAt 252 81 = some (.getfield 7, 3, (12, 0, 0, 0), 364) := rfl
theorem s252_81 {c : Nat → List AV → SS → Option Out} {l0 l1 l2 l3 : Option AV} {j t : Nat} {L2 : List (Nat × AV)} {St : List AV} {S : SS} : ev c 252 81 [l0, l1, l2, l3] L2 (aR (12, j, t) :: St) S = ev c 252 84 [l0, l1, l2, l3] L2 (S.2.2.1 (12, j, t) 0 :: St) S := ev_go i252_81 rfl
theorem i252_84 : insAt 252 84 = some (.iconst 3, 1, (0, 0, 0, 0), 0) := rfl
theorem s252_84 {c : Nat → List AV → SS → Option Out} {l0 l1 l2 l3 : Option AV} {L2 : List (Nat × AV)} {St : List AV} {S : SS} : ev c 252 84 [l0, l1, l2, l3] L2 St S = ev c 252 85 [l0, l1, l2, l3] L2 (aI 3 :: St) S := ev_go i252_84 rfl
theorem i252_85 : insAt 252 85 = some (.iaload, 1, (0, 0, 0, 0), 0) := rfl
theorem s252_85 {c : Nat → List AV → SS → Option Out} {l0 l1 l2 l3 : Option AV} {i : Int32} {o : OId} {L2 : List (Nat × AV)} {St : List AV} {S : SS} : ev c 252 85 [l0, l1, l2, l3] L2 (aI i :: aR o :: St) S = kI o i (ev c 252 86 [l0, l1, l2, l3] L2 (aI (agI S o i.toNatClampNeg) :: St) S) := ev_iaload i252_85
theorem i252_86 : insAt 252 86 = some (.iload_n 2, 1, (0, 0, 0, 0), 0) := rfl
theorem s252_86 {c : Nat → List AV → SS → Option Out} {l0 l1 l3 : Option AV} {x : Int32} {L2 : List (Nat × AV)} {St : List AV} {S : SS} : ev c 252 86 [l0, l1, some (aI x), l3] L2 St S = ev c 252 87 [l0, l1, some (aI x), l3] L2 (aI x :: St) S := ev_go i252_86 rfl
theorem i252_87 : insAt 252 87 = some (.iadd, 1, (0, 0, 0, 0), 0) := rfl
theorem s252_87 {c : Nat → List AV → SS → Option Out} {l0 l1 l2 l3 : Option AV} {x y : Int32} {L2 : List (Nat × AV)} {St : List AV} {S : SS} : ev c 252 87 [l0, l1, l2, l3] L2 (aI y :: aI x :: St) S = ev c 252 88 [l0, l1, l2, l3] L2 (aI (x + y) :: St) S := ev_go i252_87 rfl
theorem i252_88 : insAt 252 88 = some (.ireturn, 1, (0, 0, 0, 0), 0) := rfl
theorem s252_88 {c : Nat → List AV → SS → Option Out} {l0 l1 l2 l3 : Option AV} {x : Int32} {L2 : List (Nat × AV)} {S : SS} : ev c 252 88 [l0, l1, l2, l3] L2 [aI x] S = some (.inl (some (aI x)), S) := ev_end i252_88 rfl
theorem m252 {d : Nat} {o : OId} {a0 : Int32} {a1 : Int32} {S : SS} : evm (d + 1) 252 [aR o, aI a0, aI a1] S = ev (evm d) 252 0 [some (aR o), some (aI a0), some (aI a1), none] [] [] S := evm_s (n := 4) rfl (Nat.le_of_ble_eq_true rfl) rfl rfl
/-! FrequencyOfficeModel.slotOf(I)I -/
theorem i253_0 : insAt 253 0 = some (.iconst 0, 1, (0, 0, 0, 0), 0) := rfl
theorem s253_0 {c : Nat → List AV → SS → Option Out} {l0 l1 l2 : Option AV} {L2 : List (Nat × AV)} {St : List AV} {S : SS} : ev c 253 0 [l0, l1, l2] L2 St S = ev c 253 1 [l0, l1, l2] L2 (aI 0 :: St) S := ev_go i253_0 rfl
theorem i253_1 : insAt 253 1 = some (.istore_n 2, 1, (0, 0, 0, 0), 0) := rfl
theorem s253_1 {c : Nat → List AV → SS → Option Out} {l0 l1 l2 : Option AV} {x : Int32} {L2 : List (Nat × AV)} {St : List AV} {S : SS} : ev c 253 1 [l0, l1, l2] L2 (aI x :: St) S = ev c 253 2 [l0, l1, some (aI x)] (kil L2 2) St S := ev_go i253_1 rfl
theorem i253_2 : insAt 253 2 = some (.iload_n 2, 1, (0, 0, 0, 0), 0) := rfl
theorem s253_2 {c : Nat → List AV → SS → Option Out} {l0 l1 : Option AV} {x : Int32} {L2 : List (Nat × AV)} {St : List AV} {S : SS} : ev c 253 2 [l0, l1, some (aI x)] L2 St S = ev c 253 3 [l0, l1, some (aI x)] L2 (aI x :: St) S := ev_go i253_2 rfl
theorem i253_3 : insAt 253 3 = some (.aload_n 0, 1, (0, 0, 0, 0), 0) := rfl
theorem s253_3 {c : Nat → List AV → SS → Option Out} {l1 l2 : Option AV} {o : OId} {L2 : List (Nat × AV)} {St : List AV} {S : SS} : ev c 253 3 [some (aR o), l1, l2] L2 St S = ev c 253 4 [some (aR o), l1, l2] L2 (aR o :: St) S := ev_go i253_3 rfl
theorem i253_4 : insAt 253 4 = some (.getfield 7, 3, (12, 0, 0, 0), 364) := rfl
theorem s253_4 {c : Nat → List AV → SS → Option Out} {l0 l1 l2 : Option AV} {j t : Nat} {L2 : List (Nat × AV)} {St : List AV} {S : SS} : ev c 253 4 [l0, l1, l2] L2 (aR (12, j, t) :: St) S = ev c 253 7 [l0, l1, l2] L2 (S.2.2.1 (12, j, t) 0 :: St) S := ev_go i253_4 rfl
theorem i253_7 : insAt 253 7 = some (.bipush 7, 2, (0, 0, 0, 0), 0) := rfl
theorem s253_7 {c : Nat → List AV → SS → Option Out} {l0 l1 l2 : Option AV} {L2 : List (Nat × AV)} {St : List AV} {S : SS} : ev c 253 7 [l0, l1, l2] L2 St S = ev c 253 9 [l0, l1, l2] L2 (aI 7 :: St) S := ev_go i253_7 rfl
theorem i253_9 : insAt 253 9 = some (.iaload, 1, (0, 0, 0, 0), 0) := rfl
theorem s253_9 {c : Nat → List AV → SS → Option Out} {l0 l1 l2 : Option AV} {i : Int32} {o : OId} {L2 : List (Nat × AV)} {St : List AV} {S : SS} : ev c 253 9 [l0, l1, l2] L2 (aI i :: aR o :: St) S = kI o i (ev c 253 10 [l0, l1, l2] L2 (aI (agI S o i.toNatClampNeg) :: St) S) := ev_iaload i253_9
theorem i253_10 : insAt 253 10 = some (.if_icmp .ge 21, 3, (0, 0, 0, 0), 0) := rfl
theorem s253_10 {c : Nat → List AV → SS → Option Out} {l0 l1 l2 : Option AV} {x y : Int32} {L2 : List (Nat × AV)} {St : List AV} {S : SS} : ev c 253 10 [l0, l1, l2] L2 (aI y :: aI x :: St) S = if y ≤ x then ev c 253 31 [l0, l1, l2] L2 St S else ev c 253 13 [l0, l1, l2] L2 St S := ev_br i253_10 rfl
theorem i253_13 : insAt 253 13 = some (.aload_n 0, 1, (0, 0, 0, 0), 0) := rfl
theorem s253_13 {c : Nat → List AV → SS → Option Out} {l1 l2 : Option AV} {o : OId} {L2 : List (Nat × AV)} {St : List AV} {S : SS} : ev c 253 13 [some (aR o), l1, l2] L2 St S = ev c 253 14 [some (aR o), l1, l2] L2 (aR o :: St) S := ev_go i253_13 rfl
theorem i253_14 : insAt 253 14 = some (.iload_n 2, 1, (0, 0, 0, 0), 0) := rfl
theorem s253_14 {c : Nat → List AV → SS → Option Out} {l0 l1 : Option AV} {x : Int32} {L2 : List (Nat × AV)} {St : List AV} {S : SS} : ev c 253 14 [l0, l1, some (aI x)] L2 St S = ev c 253 15 [l0, l1, some (aI x)] L2 (aI x :: St) S := ev_go i253_14 rfl
theorem i253_15 : insAt 253 15 = some (.iconst 0, 1, (0, 0, 0, 0), 0) := rfl
theorem s253_15 {c : Nat → List AV → SS → Option Out} {l0 l1 l2 : Option AV} {L2 : List (Nat × AV)} {St : List AV} {S : SS} : ev c 253 15 [l0, l1, l2] L2 St S = ev c 253 16 [l0, l1, l2] L2 (aI 0 :: St) S := ev_go i253_15 rfl
theorem i253_16 : insAt 253 16 = some (.invokevirtual 75, 3, (231, 2, 2, 12), 396) := rfl
theorem s253_16 {c : Nat → List AV → SS → Option Out} {l0 l1 l2 : Option AV} {a0 : Int32} {a1 : Int32} {j t : Nat} {L2 : List (Nat × AV)} {S : SS} : ev c 253 16 [l0, l1, l2] L2 [aI a1, aI a0, aR (12, j, t)] S = ck (c 231 [aR (12, j, t), aI a0, aI a1] S) (fun v S' => ev c 253 19 [l0, l1, l2] L2 (v.toList ++ []) S') := ev_call i253_16 rfl
theorem i253_19 : insAt 253 19 = some (.iload_n 1, 1, (0, 0, 0, 0), 0) := rfl
theorem s253_19 {c : Nat → List AV → SS → Option Out} {l0 l2 : Option AV} {x : Int32} {L2 : List (Nat × AV)} {St : List AV} {S : SS} : ev c 253 19 [l0, some (aI x), l2] L2 St S = ev c 253 20 [l0, some (aI x), l2] L2 (aI x :: St) S := ev_go i253_19 rfl
theorem i253_20 : insAt 253 20 = some (.if_icmp .ne 5, 3, (0, 0, 0, 0), 0) := rfl
theorem s253_20 {c : Nat → List AV → SS → Option Out} {l0 l1 l2 : Option AV} {x y : Int32} {L2 : List (Nat × AV)} {St : List AV} {S : SS} : ev c 253 20 [l0, l1, l2] L2 (aI y :: aI x :: St) S = if x = y then ev c 253 23 [l0, l1, l2] L2 St S else ev c 253 25 [l0, l1, l2] L2 St S := (ev_br i253_20 rfl).trans (ite_not _ _ _)
theorem i253_23 : insAt 253 23 = some (.iload_n 2, 1, (0, 0, 0, 0), 0) := rfl
theorem s253_23 {c : Nat → List AV → SS → Option Out} {l0 l1 : Option AV} {x : Int32} {L2 : List (Nat × AV)} {St : List AV} {S : SS} : ev c 253 23 [l0, l1, some (aI x)] L2 St S = ev c 253 24 [l0, l1, some (aI x)] L2 (aI x :: St) S := ev_go i253_23 rfl
theorem i253_24 : insAt 253 24 = some (.ireturn, 1, (0, 0, 0, 0), 0) := rfl
theorem s253_24 {c : Nat → List AV → SS → Option Out} {l0 l1 l2 : Option AV} {x : Int32} {L2 : List (Nat × AV)} {S : SS} : ev c 253 24 [l0, l1, l2] L2 [aI x] S = some (.inl (some (aI x)), S) := ev_end i253_24 rfl
theorem i253_25 : insAt 253 25 = some (.iinc 2 1, 3, (0, 0, 0, 0), 0) := rfl
theorem s253_25 {c : Nat → List AV → SS → Option Out} {l0 l1 : Option AV} {x : Int32} {L2 : List (Nat × AV)} {St : List AV} {S : SS} : ev c 253 25 [l0, l1, some (aI x)] L2 St S = ev c 253 28 [l0, l1, some (aI (x + 1))] (kil L2 2) St S := ev_go i253_25 rfl
theorem i253_28 : insAt 253 28 = some (.goto (-26), 3, (0, 0, 0, 0), 0) := rfl
theorem s253_28 {c : Nat → List AV → SS → Option Out} {l0 l1 l2 : Option AV} {L2 : List (Nat × AV)} {St : List AV} {S : SS} : ev c 253 28 [l0, l1, l2] L2 St S = ev c 253 2 [l0, l1, l2] L2 St S := ev_go i253_28 rfl
theorem i253_31 : insAt 253 31 = some (.iconst (-1), 1, (0, 0, 0, 0), 0) := rfl
theorem s253_31 {c : Nat → List AV → SS → Option Out} {l0 l1 l2 : Option AV} {L2 : List (Nat × AV)} {St : List AV} {S : SS} : ev c 253 31 [l0, l1, l2] L2 St S = ev c 253 32 [l0, l1, l2] L2 (aI (-1) :: St) S := ev_go i253_31 rfl
theorem i253_32 : insAt 253 32 = some (.ireturn, 1, (0, 0, 0, 0), 0) := rfl
theorem s253_32 {c : Nat → List AV → SS → Option Out} {l0 l1 l2 : Option AV} {x : Int32} {L2 : List (Nat × AV)} {S : SS} : ev c 253 32 [l0, l1, l2] L2 [aI x] S = some (.inl (some (aI x)), S) := ev_end i253_32 rfl
theorem m253 {d : Nat} {o : OId} {a0 : Int32} {S : SS} : evm (d + 1) 253 [aR o, aI a0] S = ev (evm d) 253 0 [some (aR o), some (aI a0), none] [] [] S := evm_s (n := 3) rfl (Nat.le_of_ble_eq_true rfl) rfl rfl
/-! FrequencyOfficeModel.renew(II)I -/
theorem i254_0 : insAt 254 0 = some (.aload_n 0, 1, (0, 0, 0, 0), 0) := rfl
theorem s254_0 {c : Nat → List AV → SS → Option Out} {l1 l2 l3 : Option AV} {o : OId} {L2 : List (Nat × AV)} {St : List AV} {S : SS} : ev c 254 0 [some (aR o), l1, l2, l3] L2 St S = ev c 254 1 [some (aR o), l1, l2, l3] L2 (aR o :: St) S := ev_go i254_0 rfl
theorem i254_1 : insAt 254 1 = some (.iload_n 1, 1, (0, 0, 0, 0), 0) := rfl
theorem s254_1 {c : Nat → List AV → SS → Option Out} {l0 l2 l3 : Option AV} {x : Int32} {L2 : List (Nat × AV)} {St : List AV} {S : SS} : ev c 254 1 [l0, some (aI x), l2, l3] L2 St S = ev c 254 2 [l0, some (aI x), l2, l3] L2 (aI x :: St) S := ev_go i254_1 rfl
theorem i254_2 : insAt 254 2 = some (.invokevirtual 173, 3, (253, 1, 2, 12), 414) := rfl
theorem s254_2 {c : Nat → List AV → SS → Option Out} {l0 l1 l2 l3 : Option AV} {a0 : Int32} {j t : Nat} {L2 : List (Nat × AV)} {S : SS} : ev c 254 2 [l0, l1, l2, l3] L2 [aI a0, aR (12, j, t)] S = ck (c 253 [aR (12, j, t), aI a0] S) (fun v S' => ev c 254 5 [l0, l1, l2, l3] L2 (v.toList ++ []) S') := ev_call i254_2 rfl
theorem i254_5 : insAt 254 5 = some (.istore_n 3, 1, (0, 0, 0, 0), 0) := rfl
theorem s254_5 {c : Nat → List AV → SS → Option Out} {l0 l1 l2 l3 : Option AV} {x : Int32} {L2 : List (Nat × AV)} {St : List AV} {S : SS} : ev c 254 5 [l0, l1, l2, l3] L2 (aI x :: St) S = ev c 254 6 [l0, l1, l2, some (aI x)] (kil L2 3) St S := ev_go i254_5 rfl
theorem i254_6 : insAt 254 6 = some (.aload_n 0, 1, (0, 0, 0, 0), 0) := rfl
theorem s254_6 {c : Nat → List AV → SS → Option Out} {l1 l2 l3 : Option AV} {o : OId} {L2 : List (Nat × AV)} {St : List AV} {S : SS} : ev c 254 6 [some (aR o), l1, l2, l3] L2 St S = ev c 254 7 [some (aR o), l1, l2, l3] L2 (aR o :: St) S := ev_go i254_6 rfl
theorem i254_7 : insAt 254 7 = some (.iload_n 3, 1, (0, 0, 0, 0), 0) := rfl
theorem s254_7 {c : Nat → List AV → SS → Option Out} {l0 l1 l2 : Option AV} {x : Int32} {L2 : List (Nat × AV)} {St : List AV} {S : SS} : ev c 254 7 [l0, l1, l2, some (aI x)] L2 St S = ev c 254 8 [l0, l1, l2, some (aI x)] L2 (aI x :: St) S := ev_go i254_7 rfl
theorem i254_8 : insAt 254 8 = some (.ifCond .ge 7, 3, (0, 0, 0, 0), 0) := rfl
theorem s254_8 {c : Nat → List AV → SS → Option Out} {l0 l1 l2 l3 : Option AV} {x : Int32} {L2 : List (Nat × AV)} {St : List AV} {S : SS} : ev c 254 8 [l0, l1, l2, l3] L2 (aI x :: St) S = if 0 ≤ x then ev c 254 15 [l0, l1, l2, l3] L2 St S else ev c 254 11 [l0, l1, l2, l3] L2 St S := ev_br i254_8 rfl
theorem i254_11 : insAt 254 11 = some (.iconst 1, 1, (0, 0, 0, 0), 0) := rfl
theorem s254_11 {c : Nat → List AV → SS → Option Out} {l0 l1 l2 l3 : Option AV} {L2 : List (Nat × AV)} {St : List AV} {S : SS} : ev c 254 11 [l0, l1, l2, l3] L2 St S = ev c 254 12 [l0, l1, l2, l3] L2 (aI 1 :: St) S := ev_go i254_11 rfl
theorem i254_12 : insAt 254 12 = some (.goto 52, 3, (0, 0, 0, 0), 0) := rfl
theorem s254_12 {c : Nat → List AV → SS → Option Out} {l0 l1 l2 l3 : Option AV} {L2 : List (Nat × AV)} {St : List AV} {S : SS} : ev c 254 12 [l0, l1, l2, l3] L2 St S = ev c 254 64 [l0, l1, l2, l3] L2 St S := ev_go i254_12 rfl
theorem i254_15 : insAt 254 15 = some (.iload_n 2, 1, (0, 0, 0, 0), 0) := rfl
theorem s254_15 {c : Nat → List AV → SS → Option Out} {l0 l1 l3 : Option AV} {x : Int32} {L2 : List (Nat × AV)} {St : List AV} {S : SS} : ev c 254 15 [l0, l1, some (aI x), l3] L2 St S = ev c 254 16 [l0, l1, some (aI x), l3] L2 (aI x :: St) S := ev_go i254_15 rfl
theorem i254_16 : insAt 254 16 = some (.iconst 1, 1, (0, 0, 0, 0), 0) := rfl
theorem s254_16 {c : Nat → List AV → SS → Option Out} {l0 l1 l2 l3 : Option AV} {L2 : List (Nat × AV)} {St : List AV} {S : SS} : ev c 254 16 [l0, l1, l2, l3] L2 St S = ev c 254 17 [l0, l1, l2, l3] L2 (aI 1 :: St) S := ev_go i254_16 rfl
theorem i254_17 : insAt 254 17 = some (.sipush 365, 3, (0, 0, 0, 0), 0) := rfl
theorem s254_17 {c : Nat → List AV → SS → Option Out} {l0 l1 l2 l3 : Option AV} {L2 : List (Nat × AV)} {St : List AV} {S : SS} : ev c 254 17 [l0, l1, l2, l3] L2 St S = ev c 254 20 [l0, l1, l2, l3] L2 (aI 365 :: St) S := ev_go i254_17 rfl
theorem i254_20 : insAt 254 20 = some (.invokestatic 154, 3, (225, 3, 0, 0), 388) := rfl
theorem s254_20 {c : Nat → List AV → SS → Option Out} {l0 l1 l2 l3 : Option AV} {t0 : AV} {a0 : Int32} {a1 : Int32} {a2 : Int32} {L2 : List (Nat × AV)} {S : SS} : ev c 254 20 [l0, l1, l2, l3] L2 [aI a2, aI a1, aI a0, t0] S = ck (c 225 [aI a0, aI a1, aI a2] S) (fun v S' => ev c 254 23 [l0, l1, l2, l3] L2 (v.toList ++ [t0]) S') := ev_call i254_20 rfl
theorem i254_23 : insAt 254 23 = some (.ifCond .ne 7, 3, (0, 0, 0, 0), 0) := rfl
theorem s254_23 {c : Nat → List AV → SS → Option Out} {l0 l1 l2 l3 : Option AV} {x : Int32} {L2 : List (Nat × AV)} {St : List AV} {S : SS} : ev c 254 23 [l0, l1, l2, l3] L2 (aI x :: St) S = if x = 0 then ev c 254 26 [l0, l1, l2, l3] L2 St S else ev c 254 30 [l0, l1, l2, l3] L2 St S := (ev_br i254_23 rfl).trans (ite_not _ _ _)
theorem i254_26 : insAt 254 26 = some (.iconst 2, 1, (0, 0, 0, 0), 0) := rfl
theorem s254_26 {c : Nat → List AV → SS → Option Out} {l0 l1 l2 l3 : Option AV} {L2 : List (Nat × AV)} {St : List AV} {S : SS} : ev c 254 26 [l0, l1, l2, l3] L2 St S = ev c 254 27 [l0, l1, l2, l3] L2 (aI 2 :: St) S := ev_go i254_26 rfl
theorem i254_27 : insAt 254 27 = some (.goto 37, 3, (0, 0, 0, 0), 0) := rfl
theorem s254_27 {c : Nat → List AV → SS → Option Out} {l0 l1 l2 l3 : Option AV} {L2 : List (Nat × AV)} {St : List AV} {S : SS} : ev c 254 27 [l0, l1, l2, l3] L2 St S = ev c 254 64 [l0, l1, l2, l3] L2 St S := ev_go i254_27 rfl
theorem i254_30 : insAt 254 30 = some (.aload_n 0, 1, (0, 0, 0, 0), 0) := rfl
theorem s254_30 {c : Nat → List AV → SS → Option Out} {l1 l2 l3 : Option AV} {o : OId} {L2 : List (Nat × AV)} {St : List AV} {S : SS} : ev c 254 30 [some (aR o), l1, l2, l3] L2 St S = ev c 254 31 [some (aR o), l1, l2, l3] L2 (aR o :: St) S := ev_go i254_30 rfl
theorem i254_31 : insAt 254 31 = some (.iload_n 3, 1, (0, 0, 0, 0), 0) := rfl
theorem s254_31 {c : Nat → List AV → SS → Option Out} {l0 l1 l2 : Option AV} {x : Int32} {L2 : List (Nat × AV)} {St : List AV} {S : SS} : ev c 254 31 [l0, l1, l2, some (aI x)] L2 St S = ev c 254 32 [l0, l1, l2, some (aI x)] L2 (aI x :: St) S := ev_go i254_31 rfl
theorem i254_32 : insAt 254 32 = some (.invokevirtual 115, 3, (230, 1, 2, 12), 400) := rfl
theorem s254_32 {c : Nat → List AV → SS → Option Out} {l0 l1 l2 l3 : Option AV} {t0 : AV} {a0 : Int32} {j t : Nat} {L2 : List (Nat × AV)} {S : SS} : ev c 254 32 [l0, l1, l2, l3] L2 [aI a0, aR (12, j, t), t0] S = ck (c 230 [aR (12, j, t), aI a0] S) (fun v S' => ev c 254 35 [l0, l1, l2, l3] L2 (v.toList ++ [t0]) S') := ev_call i254_32 rfl
theorem i254_35 : insAt 254 35 = some (.ifCond .eq 24, 3, (0, 0, 0, 0), 0) := rfl
theorem s254_35 {c : Nat → List AV → SS → Option Out} {l0 l1 l2 l3 : Option AV} {x : Int32} {L2 : List (Nat × AV)} {St : List AV} {S : SS} : ev c 254 35 [l0, l1, l2, l3] L2 (aI x :: St) S = if x = 0 then ev c 254 59 [l0, l1, l2, l3] L2 St S else ev c 254 38 [l0, l1, l2, l3] L2 St S := ev_br i254_35 rfl
theorem i254_38 : insAt 254 38 = some (.aload_n 0, 1, (0, 0, 0, 0), 0) := rfl
theorem s254_38 {c : Nat → List AV → SS → Option Out} {l1 l2 l3 : Option AV} {o : OId} {L2 : List (Nat × AV)} {St : List AV} {S : SS} : ev c 254 38 [some (aR o), l1, l2, l3] L2 St S = ev c 254 39 [some (aR o), l1, l2, l3] L2 (aR o :: St) S := ev_go i254_38 rfl
theorem i254_39 : insAt 254 39 = some (.iload_n 3, 1, (0, 0, 0, 0), 0) := rfl
theorem s254_39 {c : Nat → List AV → SS → Option Out} {l0 l1 l2 : Option AV} {x : Int32} {L2 : List (Nat × AV)} {St : List AV} {S : SS} : ev c 254 39 [l0, l1, l2, some (aI x)] L2 St S = ev c 254 40 [l0, l1, l2, some (aI x)] L2 (aI x :: St) S := ev_go i254_39 rfl
theorem i254_40 : insAt 254 40 = some (.iconst 4, 1, (0, 0, 0, 0), 0) := rfl
theorem s254_40 {c : Nat → List AV → SS → Option Out} {l0 l1 l2 l3 : Option AV} {L2 : List (Nat × AV)} {St : List AV} {S : SS} : ev c 254 40 [l0, l1, l2, l3] L2 St S = ev c 254 41 [l0, l1, l2, l3] L2 (aI 4 :: St) S := ev_go i254_40 rfl
theorem i254_41 : insAt 254 41 = some (.invokevirtual 75, 3, (231, 2, 2, 12), 396) := rfl
theorem s254_41 {c : Nat → List AV → SS → Option Out} {l0 l1 l2 l3 : Option AV} {t0 : AV} {a0 : Int32} {a1 : Int32} {j t : Nat} {L2 : List (Nat × AV)} {S : SS} : ev c 254 41 [l0, l1, l2, l3] L2 [aI a1, aI a0, aR (12, j, t), t0] S = ck (c 231 [aR (12, j, t), aI a0, aI a1] S) (fun v S' => ev c 254 44 [l0, l1, l2, l3] L2 (v.toList ++ [t0]) S') := ev_call i254_41 rfl
theorem i254_44 : insAt 254 44 = some (.iload_n 2, 1, (0, 0, 0, 0), 0) := rfl
theorem s254_44 {c : Nat → List AV → SS → Option Out} {l0 l1 l3 : Option AV} {x : Int32} {L2 : List (Nat × AV)} {St : List AV} {S : SS} : ev c 254 44 [l0, l1, some (aI x), l3] L2 St S = ev c 254 45 [l0, l1, some (aI x), l3] L2 (aI x :: St) S := ev_go i254_44 rfl
theorem i254_45 : insAt 254 45 = some (.iadd, 1, (0, 0, 0, 0), 0) := rfl
theorem s254_45 {c : Nat → List AV → SS → Option Out} {l0 l1 l2 l3 : Option AV} {x y : Int32} {L2 : List (Nat × AV)} {St : List AV} {S : SS} : ev c 254 45 [l0, l1, l2, l3] L2 (aI y :: aI x :: St) S = ev c 254 46 [l0, l1, l2, l3] L2 (aI (x + y) :: St) S := ev_go i254_45 rfl
theorem i254_46 : insAt 254 46 = some (.aload_n 0, 1, (0, 0, 0, 0), 0) := rfl
theorem s254_46 {c : Nat → List AV → SS → Option Out} {l1 l2 l3 : Option AV} {o : OId} {L2 : List (Nat × AV)} {St : List AV} {S : SS} : ev c 254 46 [some (aR o), l1, l2, l3] L2 St S = ev c 254 47 [some (aR o), l1, l2, l3] L2 (aR o :: St) S := ev_go i254_46 rfl
theorem i254_47 : insAt 254 47 = some (.getfield 7, 3, (12, 0, 0, 0), 364) := rfl
theorem s254_47 {c : Nat → List AV → SS → Option Out} {l0 l1 l2 l3 : Option AV} {j t : Nat} {L2 : List (Nat × AV)} {St : List AV} {S : SS} : ev c 254 47 [l0, l1, l2, l3] L2 (aR (12, j, t) :: St) S = ev c 254 50 [l0, l1, l2, l3] L2 (S.2.2.1 (12, j, t) 0 :: St) S := ev_go i254_47 rfl
theorem i254_50 : insAt 254 50 = some (.iconst 3, 1, (0, 0, 0, 0), 0) := rfl
theorem s254_50 {c : Nat → List AV → SS → Option Out} {l0 l1 l2 l3 : Option AV} {L2 : List (Nat × AV)} {St : List AV} {S : SS} : ev c 254 50 [l0, l1, l2, l3] L2 St S = ev c 254 51 [l0, l1, l2, l3] L2 (aI 3 :: St) S := ev_go i254_50 rfl
theorem i254_51 : insAt 254 51 = some (.iaload, 1, (0, 0, 0, 0), 0) := rfl
theorem s254_51 {c : Nat → List AV → SS → Option Out} {l0 l1 l2 l3 : Option AV} {i : Int32} {o : OId} {L2 : List (Nat × AV)} {St : List AV} {S : SS} : ev c 254 51 [l0, l1, l2, l3] L2 (aI i :: aR o :: St) S = kI o i (ev c 254 52 [l0, l1, l2, l3] L2 (aI (agI S o i.toNatClampNeg) :: St) S) := ev_iaload i254_51
theorem i254_52 : insAt 254 52 = some (.sipush 365, 3, (0, 0, 0, 0), 0) := rfl
theorem s254_52 {c : Nat → List AV → SS → Option Out} {l0 l1 l2 l3 : Option AV} {L2 : List (Nat × AV)} {St : List AV} {S : SS} : ev c 254 52 [l0, l1, l2, l3] L2 St S = ev c 254 55 [l0, l1, l2, l3] L2 (aI 365 :: St) S := ev_go i254_52 rfl
theorem i254_55 : insAt 254 55 = some (.iadd, 1, (0, 0, 0, 0), 0) := rfl
theorem s254_55 {c : Nat → List AV → SS → Option Out} {l0 l1 l2 l3 : Option AV} {x y : Int32} {L2 : List (Nat × AV)} {St : List AV} {S : SS} : ev c 254 55 [l0, l1, l2, l3] L2 (aI y :: aI x :: St) S = ev c 254 56 [l0, l1, l2, l3] L2 (aI (x + y) :: St) S := ev_go i254_55 rfl
theorem i254_56 : insAt 254 56 = some (.if_icmp .le 7, 3, (0, 0, 0, 0), 0) := rfl
theorem s254_56 {c : Nat → List AV → SS → Option Out} {l0 l1 l2 l3 : Option AV} {x y : Int32} {L2 : List (Nat × AV)} {St : List AV} {S : SS} : ev c 254 56 [l0, l1, l2, l3] L2 (aI y :: aI x :: St) S = if x ≤ y then ev c 254 63 [l0, l1, l2, l3] L2 St S else ev c 254 59 [l0, l1, l2, l3] L2 St S := ev_br i254_56 rfl
theorem i254_59 : insAt 254 59 = some (.iconst 3, 1, (0, 0, 0, 0), 0) := rfl
theorem s254_59 {c : Nat → List AV → SS → Option Out} {l0 l1 l2 l3 : Option AV} {L2 : List (Nat × AV)} {St : List AV} {S : SS} : ev c 254 59 [l0, l1, l2, l3] L2 St S = ev c 254 60 [l0, l1, l2, l3] L2 (aI 3 :: St) S := ev_go i254_59 rfl
theorem i254_60 : insAt 254 60 = some (.goto 4, 3, (0, 0, 0, 0), 0) := rfl
theorem s254_60 {c : Nat → List AV → SS → Option Out} {l0 l1 l2 l3 : Option AV} {L2 : List (Nat × AV)} {St : List AV} {S : SS} : ev c 254 60 [l0, l1, l2, l3] L2 St S = ev c 254 64 [l0, l1, l2, l3] L2 St S := ev_go i254_60 rfl
theorem i254_63 : insAt 254 63 = some (.iconst 0, 1, (0, 0, 0, 0), 0) := rfl
theorem s254_63 {c : Nat → List AV → SS → Option Out} {l0 l1 l2 l3 : Option AV} {L2 : List (Nat × AV)} {St : List AV} {S : SS} : ev c 254 63 [l0, l1, l2, l3] L2 St S = ev c 254 64 [l0, l1, l2, l3] L2 (aI 0 :: St) S := ev_go i254_63 rfl
theorem i254_64 : insAt 254 64 = some (.putfield 31, 3, (12, 7, 0, 0), 371) := rfl
theorem s254_64 {c : Nat → List AV → SS → Option Out} {l0 l1 l2 l3 : Option AV} {j t : Nat} {x : Int32} {L2 : List (Nat × AV)} {St : List AV} {S : SS} : ev c 254 64 [l0, l1, l2, l3] L2 (aI x :: aR (12, j, t) :: St) S = ev c 254 67 [l0, l1, l2, l3] L2 St (setI S.1 (12, j, t) 7 x, S.2) := ev_go i254_64 rfl
theorem i254_67 : insAt 254 67 = some (.aload_n 0, 1, (0, 0, 0, 0), 0) := rfl
theorem s254_67 {c : Nat → List AV → SS → Option Out} {l1 l2 l3 : Option AV} {o : OId} {L2 : List (Nat × AV)} {St : List AV} {S : SS} : ev c 254 67 [some (aR o), l1, l2, l3] L2 St S = ev c 254 68 [some (aR o), l1, l2, l3] L2 (aR o :: St) S := ev_go i254_67 rfl
theorem i254_68 : insAt 254 68 = some (.getfield 31, 3, (12, 7, 0, 0), 371) := rfl
theorem s254_68 {c : Nat → List AV → SS → Option Out} {l0 l1 l2 l3 : Option AV} {j t : Nat} {L2 : List (Nat × AV)} {St : List AV} {S : SS} : ev c 254 68 [l0, l1, l2, l3] L2 (aR (12, j, t) :: St) S = ev c 254 71 [l0, l1, l2, l3] L2 (aI (S.1 (12, j, t) 7) :: St) S := ev_go i254_68 rfl
theorem i254_71 : insAt 254 71 = some (.ifCond .le 5, 3, (0, 0, 0, 0), 0) := rfl
theorem s254_71 {c : Nat → List AV → SS → Option Out} {l0 l1 l2 l3 : Option AV} {x : Int32} {L2 : List (Nat × AV)} {St : List AV} {S : SS} : ev c 254 71 [l0, l1, l2, l3] L2 (aI x :: St) S = if x ≤ 0 then ev c 254 76 [l0, l1, l2, l3] L2 St S else ev c 254 74 [l0, l1, l2, l3] L2 St S := ev_br i254_71 rfl
theorem i254_74 : insAt 254 74 = some (.iconst 0, 1, (0, 0, 0, 0), 0) := rfl
theorem s254_74 {c : Nat → List AV → SS → Option Out} {l0 l1 l2 l3 : Option AV} {L2 : List (Nat × AV)} {St : List AV} {S : SS} : ev c 254 74 [l0, l1, l2, l3] L2 St S = ev c 254 75 [l0, l1, l2, l3] L2 (aI 0 :: St) S := ev_go i254_74 rfl
theorem i254_75 : insAt 254 75 = some (.ireturn, 1, (0, 0, 0, 0), 0) := rfl
theorem s254_75 {c : Nat → List AV → SS → Option Out} {l0 l1 l2 l3 : Option AV} {x : Int32} {L2 : List (Nat × AV)} {S : SS} : ev c 254 75 [l0, l1, l2, l3] L2 [aI x] S = some (.inl (some (aI x)), S) := ev_end i254_75 rfl
theorem i254_76 : insAt 254 76 = some (.aload_n 0, 1, (0, 0, 0, 0), 0) := rfl
theorem s254_76 {c : Nat → List AV → SS → Option Out} {l1 l2 l3 : Option AV} {o : OId} {L2 : List (Nat × AV)} {St : List AV} {S : SS} : ev c 254 76 [some (aR o), l1, l2, l3] L2 St S = ev c 254 77 [some (aR o), l1, l2, l3] L2 (aR o :: St) S := ev_go i254_76 rfl
theorem i254_77 : insAt 254 77 = some (.invokevirtual 86, 3, (217, 0, 2, 12), 384) := rfl
theorem s254_77 {c : Nat → List AV → SS → Option Out} {l0 l1 l2 l3 : Option AV} {j t : Nat} {L2 : List (Nat × AV)} {S : SS} : ev c 254 77 [l0, l1, l2, l3] L2 [aR (12, j, t)] S = ck (c 217 [aR (12, j, t)] S) (fun v S' => ev c 254 80 [l0, l1, l2, l3] L2 (v.toList ++ []) S') := ev_call i254_77 rfl
theorem i254_80 : insAt 254 80 = some (.aload_n 0, 1, (0, 0, 0, 0), 0) := rfl
theorem s254_80 {c : Nat → List AV → SS → Option Out} {l1 l2 l3 : Option AV} {o : OId} {L2 : List (Nat × AV)} {St : List AV} {S : SS} : ev c 254 80 [some (aR o), l1, l2, l3] L2 St S = ev c 254 81 [some (aR o), l1, l2, l3] L2 (aR o :: St) S := ev_go i254_80 rfl
theorem i254_81 : insAt 254 81 = some (.iload_n 3, 1, (0, 0, 0, 0), 0) := rfl
theorem s254_81 {c : Nat → List AV → SS → Option Out} {l0 l1 l2 : Option AV} {x : Int32} {L2 : List (Nat × AV)} {St : List AV} {S : SS} : ev c 254 81 [l0, l1, l2, some (aI x)] L2 St S = ev c 254 82 [l0, l1, l2, some (aI x)] L2 (aI x :: St) S := ev_go i254_81 rfl
theorem i254_82 : insAt 254 82 = some (.iconst 4, 1, (0, 0, 0, 0), 0) := rfl
theorem s254_82 {c : Nat → List AV → SS → Option Out} {l0 l1 l2 l3 : Option AV} {L2 : List (Nat × AV)} {St : List AV} {S : SS} : ev c 254 82 [l0, l1, l2, l3] L2 St S = ev c 254 83 [l0, l1, l2, l3] L2 (aI 4 :: St) S := ev_go i254_82 rfl
theorem i254_83 : insAt 254 83 = some (.aload_n 0, 1, (0, 0, 0, 0), 0) := rfl
theorem s254_83 {c : Nat → List AV → SS → Option Out} {l1 l2 l3 : Option AV} {o : OId} {L2 : List (Nat × AV)} {St : List AV} {S : SS} : ev c 254 83 [some (aR o), l1, l2, l3] L2 St S = ev c 254 84 [some (aR o), l1, l2, l3] L2 (aR o :: St) S := ev_go i254_83 rfl
theorem i254_84 : insAt 254 84 = some (.iload_n 3, 1, (0, 0, 0, 0), 0) := rfl
theorem s254_84 {c : Nat → List AV → SS → Option Out} {l0 l1 l2 : Option AV} {x : Int32} {L2 : List (Nat × AV)} {St : List AV} {S : SS} : ev c 254 84 [l0, l1, l2, some (aI x)] L2 St S = ev c 254 85 [l0, l1, l2, some (aI x)] L2 (aI x :: St) S := ev_go i254_84 rfl
theorem i254_85 : insAt 254 85 = some (.iconst 4, 1, (0, 0, 0, 0), 0) := rfl
theorem s254_85 {c : Nat → List AV → SS → Option Out} {l0 l1 l2 l3 : Option AV} {L2 : List (Nat × AV)} {St : List AV} {S : SS} : ev c 254 85 [l0, l1, l2, l3] L2 St S = ev c 254 86 [l0, l1, l2, l3] L2 (aI 4 :: St) S := ev_go i254_85 rfl
theorem i254_86 : insAt 254 86 = some (.invokevirtual 75, 3, (231, 2, 2, 12), 396) := rfl
theorem s254_86 {c : Nat → List AV → SS → Option Out} {l0 l1 l2 l3 : Option AV} {t0 t1 t2 : AV} {a0 : Int32} {a1 : Int32} {j t : Nat} {L2 : List (Nat × AV)} {S : SS} : ev c 254 86 [l0, l1, l2, l3] L2 [aI a1, aI a0, aR (12, j, t), t0, t1, t2] S = ck (c 231 [aR (12, j, t), aI a0, aI a1] S) (fun v S' => ev c 254 89 [l0, l1, l2, l3] L2 (v.toList ++ [t0, t1, t2]) S') := ev_call i254_86 rfl
theorem i254_89 : insAt 254 89 = some (.iload_n 2, 1, (0, 0, 0, 0), 0) := rfl
theorem s254_89 {c : Nat → List AV → SS → Option Out} {l0 l1 l3 : Option AV} {x : Int32} {L2 : List (Nat × AV)} {St : List AV} {S : SS} : ev c 254 89 [l0, l1, some (aI x), l3] L2 St S = ev c 254 90 [l0, l1, some (aI x), l3] L2 (aI x :: St) S := ev_go i254_89 rfl
theorem i254_90 : insAt 254 90 = some (.iadd, 1, (0, 0, 0, 0), 0) := rfl
theorem s254_90 {c : Nat → List AV → SS → Option Out} {l0 l1 l2 l3 : Option AV} {x y : Int32} {L2 : List (Nat × AV)} {St : List AV} {S : SS} : ev c 254 90 [l0, l1, l2, l3] L2 (aI y :: aI x :: St) S = ev c 254 91 [l0, l1, l2, l3] L2 (aI (x + y) :: St) S := ev_go i254_90 rfl
theorem i254_91 : insAt 254 91 = some (.invokevirtual 79, 3, (242, 3, 2, 12), 397) := rfl
theorem s254_91 {c : Nat → List AV → SS → Option Out} {l0 l1 l2 l3 : Option AV} {a0 : Int32} {a1 : Int32} {a2 : Int32} {j t : Nat} {L2 : List (Nat × AV)} {S : SS} : ev c 254 91 [l0, l1, l2, l3] L2 [aI a2, aI a1, aI a0, aR (12, j, t)] S = ck (c 242 [aR (12, j, t), aI a0, aI a1, aI a2] S) (fun v S' => ev c 254 94 [l0, l1, l2, l3] L2 (v.toList ++ []) S') := ev_call i254_91 rfl
theorem i254_94 : insAt 254 94 = some (.aload_n 0, 1, (0, 0, 0, 0), 0) := rfl
theorem s254_94 {c : Nat → List AV → SS → Option Out} {l1 l2 l3 : Option AV} {o : OId} {L2 : List (Nat × AV)} {St : List AV} {S : SS} : ev c 254 94 [some (aR o), l1, l2, l3] L2 St S = ev c 254 95 [some (aR o), l1, l2, l3] L2 (aR o :: St) S := ev_go i254_94 rfl
theorem i254_95 : insAt 254 95 = some (.iload_n 3, 1, (0, 0, 0, 0), 0) := rfl
theorem s254_95 {c : Nat → List AV → SS → Option Out} {l0 l1 l2 : Option AV} {x : Int32} {L2 : List (Nat × AV)} {St : List AV} {S : SS} : ev c 254 95 [l0, l1, l2, some (aI x)] L2 St S = ev c 254 96 [l0, l1, l2, some (aI x)] L2 (aI x :: St) S := ev_go i254_95 rfl
theorem i254_96 : insAt 254 96 = some (.iconst 4, 1, (0, 0, 0, 0), 0) := rfl
theorem s254_96 {c : Nat → List AV → SS → Option Out} {l0 l1 l2 l3 : Option AV} {L2 : List (Nat × AV)} {St : List AV} {S : SS} : ev c 254 96 [l0, l1, l2, l3] L2 St S = ev c 254 97 [l0, l1, l2, l3] L2 (aI 4 :: St) S := ev_go i254_96 rfl
theorem i254_97 : insAt 254 97 = some (.invokevirtual 75, 3, (231, 2, 2, 12), 396) := rfl
theorem s254_97 {c : Nat → List AV → SS → Option Out} {l0 l1 l2 l3 : Option AV} {a0 : Int32} {a1 : Int32} {j t : Nat} {L2 : List (Nat × AV)} {S : SS} : ev c 254 97 [l0, l1, l2, l3] L2 [aI a1, aI a0, aR (12, j, t)] S = ck (c 231 [aR (12, j, t), aI a0, aI a1] S) (fun v S' => ev c 254 100 [l0, l1, l2, l3] L2 (v.toList ++ []) S') := ev_call i254_97 rfl
theorem i254_100 : insAt 254 100 = some (.ireturn, 1, (0, 0, 0, 0), 0) := rfl
theorem s254_100 {c : Nat → List AV → SS → Option Out} {l0 l1 l2 l3 : Option AV} {x : Int32} {L2 : List (Nat × AV)} {S : SS} : ev c 254 100 [l0, l1, l2, l3] L2 [aI x] S = some (.inl (some (aI x)), S) := ev_end i254_100 rfl
theorem m254 {d : Nat} {o : OId} {a0 : Int32} {a1 : Int32} {S : SS} : evm (d + 1) 254 [aR o, aI a0, aI a1] S = ev (evm d) 254 0 [some (aR o), some (aI a0), some (aI a1), none] [] [] S := evm_s (n := 4) rfl (Nat.le_of_ble_eq_true rfl) rfl rfl
/-! FrequencyOfficeModel.close(I)I -/
theorem i255_0 : insAt 255 0 = some (.aload_n 0, 1, (0, 0, 0, 0), 0) := rfl
theorem s255_0 {c : Nat → List AV → SS → Option Out} {l1 : Option AV} {o : OId} {L2 : List (Nat × AV)} {St : List AV} {S : SS} : ev c 255 0 [some (aR o), l1] L2 St S = ev c 255 1 [some (aR o), l1] L2 (aR o :: St) S := ev_go i255_0 rfl
theorem i255_1 : insAt 255 1 = some (.aload_n 0, 1, (0, 0, 0, 0), 0) := rfl
theorem s255_1 {c : Nat → List AV → SS → Option Out} {l1 : Option AV} {o : OId} {L2 : List (Nat × AV)} {St : List AV} {S : SS} : ev c 255 1 [some (aR o), l1] L2 St S = ev c 255 2 [some (aR o), l1] L2 (aR o :: St) S := ev_go i255_1 rfl
theorem i255_2 : insAt 255 2 = some (.iload_n 1, 1, (0, 0, 0, 0), 0) := rfl
theorem s255_2 {c : Nat → List AV → SS → Option Out} {l0 : Option AV} {x : Int32} {L2 : List (Nat × AV)} {St : List AV} {S : SS} : ev c 255 2 [l0, some (aI x)] L2 St S = ev c 255 3 [l0, some (aI x)] L2 (aI x :: St) S := ev_go i255_2 rfl
theorem i255_3 : insAt 255 3 = some (.invokevirtual 173, 3, (253, 1, 2, 12), 414) := rfl
theorem s255_3 {c : Nat → List AV → SS → Option Out} {l0 l1 : Option AV} {t0 : AV} {a0 : Int32} {j t : Nat} {L2 : List (Nat × AV)} {S : SS} : ev c 255 3 [l0, l1] L2 [aI a0, aR (12, j, t), t0] S = ck (c 253 [aR (12, j, t), aI a0] S) (fun v S' => ev c 255 6 [l0, l1] L2 (v.toList ++ [t0]) S') := ev_call i255_3 rfl
theorem i255_6 : insAt 255 6 = some (.ifCond .lt 7, 3, (0, 0, 0, 0), 0) := rfl
theorem s255_6 {c : Nat → List AV → SS → Option Out} {l0 l1 : Option AV} {x : Int32} {L2 : List (Nat × AV)} {St : List AV} {S : SS} : ev c 255 6 [l0, l1] L2 (aI x :: St) S = if x < 0 then ev c 255 13 [l0, l1] L2 St S else ev c 255 9 [l0, l1] L2 St S := ev_br i255_6 rfl
theorem i255_9 : insAt 255 9 = some (.iconst 1, 1, (0, 0, 0, 0), 0) := rfl
theorem s255_9 {c : Nat → List AV → SS → Option Out} {l0 l1 : Option AV} {L2 : List (Nat × AV)} {St : List AV} {S : SS} : ev c 255 9 [l0, l1] L2 St S = ev c 255 10 [l0, l1] L2 (aI 1 :: St) S := ev_go i255_9 rfl
theorem i255_10 : insAt 255 10 = some (.goto 4, 3, (0, 0, 0, 0), 0) := rfl
theorem s255_10 {c : Nat → List AV → SS → Option Out} {l0 l1 : Option AV} {L2 : List (Nat × AV)} {St : List AV} {S : SS} : ev c 255 10 [l0, l1] L2 St S = ev c 255 14 [l0, l1] L2 St S := ev_go i255_10 rfl
theorem i255_13 : insAt 255 13 = some (.iconst 0, 1, (0, 0, 0, 0), 0) := rfl
theorem s255_13 {c : Nat → List AV → SS → Option Out} {l0 l1 : Option AV} {L2 : List (Nat × AV)} {St : List AV} {S : SS} : ev c 255 13 [l0, l1] L2 St S = ev c 255 14 [l0, l1] L2 (aI 0 :: St) S := ev_go i255_13 rfl
theorem i255_14 : insAt 255 14 = some (.invokevirtual 176, 3, (256, 1, 2, 12), 415) := rfl
theorem s255_14 {c : Nat → List AV → SS → Option Out} {l0 l1 : Option AV} {a0 : Int32} {j t : Nat} {L2 : List (Nat × AV)} {S : SS} : ev c 255 14 [l0, l1] L2 [aI a0, aR (12, j, t)] S = ck (c 256 [aR (12, j, t), aI a0] S) (fun v S' => ev c 255 17 [l0, l1] L2 (v.toList ++ []) S') := ev_call i255_14 rfl
theorem i255_17 : insAt 255 17 = some (.ifCond .le 5, 3, (0, 0, 0, 0), 0) := rfl
theorem s255_17 {c : Nat → List AV → SS → Option Out} {l0 l1 : Option AV} {x : Int32} {L2 : List (Nat × AV)} {St : List AV} {S : SS} : ev c 255 17 [l0, l1] L2 (aI x :: St) S = if x ≤ 0 then ev c 255 22 [l0, l1] L2 St S else ev c 255 20 [l0, l1] L2 St S := ev_br i255_17 rfl
theorem i255_20 : insAt 255 20 = some (.iconst 0, 1, (0, 0, 0, 0), 0) := rfl
theorem s255_20 {c : Nat → List AV → SS → Option Out} {l0 l1 : Option AV} {L2 : List (Nat × AV)} {St : List AV} {S : SS} : ev c 255 20 [l0, l1] L2 St S = ev c 255 21 [l0, l1] L2 (aI 0 :: St) S := ev_go i255_20 rfl
theorem i255_21 : insAt 255 21 = some (.ireturn, 1, (0, 0, 0, 0), 0) := rfl
theorem s255_21 {c : Nat → List AV → SS → Option Out} {l0 l1 : Option AV} {x : Int32} {L2 : List (Nat × AV)} {S : SS} : ev c 255 21 [l0, l1] L2 [aI x] S = some (.inl (some (aI x)), S) := ev_end i255_21 rfl
theorem i255_22 : insAt 255 22 = some (.aload_n 0, 1, (0, 0, 0, 0), 0) := rfl
theorem s255_22 {c : Nat → List AV → SS → Option Out} {l1 : Option AV} {o : OId} {L2 : List (Nat × AV)} {St : List AV} {S : SS} : ev c 255 22 [some (aR o), l1] L2 St S = ev c 255 23 [some (aR o), l1] L2 (aR o :: St) S := ev_go i255_22 rfl
theorem i255_23 : insAt 255 23 = some (.invokevirtual 86, 3, (217, 0, 2, 12), 384) := rfl
theorem s255_23 {c : Nat → List AV → SS → Option Out} {l0 l1 : Option AV} {j t : Nat} {L2 : List (Nat × AV)} {S : SS} : ev c 255 23 [l0, l1] L2 [aR (12, j, t)] S = ck (c 217 [aR (12, j, t)] S) (fun v S' => ev c 255 26 [l0, l1] L2 (v.toList ++ []) S') := ev_call i255_23 rfl
theorem i255_26 : insAt 255 26 = some (.aload_n 0, 1, (0, 0, 0, 0), 0) := rfl
theorem s255_26 {c : Nat → List AV → SS → Option Out} {l1 : Option AV} {o : OId} {L2 : List (Nat × AV)} {St : List AV} {S : SS} : ev c 255 26 [some (aR o), l1] L2 St S = ev c 255 27 [some (aR o), l1] L2 (aR o :: St) S := ev_go i255_26 rfl
theorem i255_27 : insAt 255 27 = some (.aload_n 0, 1, (0, 0, 0, 0), 0) := rfl
theorem s255_27 {c : Nat → List AV → SS → Option Out} {l1 : Option AV} {o : OId} {L2 : List (Nat × AV)} {St : List AV} {S : SS} : ev c 255 27 [some (aR o), l1] L2 St S = ev c 255 28 [some (aR o), l1] L2 (aR o :: St) S := ev_go i255_27 rfl
theorem i255_28 : insAt 255 28 = some (.iload_n 1, 1, (0, 0, 0, 0), 0) := rfl
theorem s255_28 {c : Nat → List AV → SS → Option Out} {l0 : Option AV} {x : Int32} {L2 : List (Nat × AV)} {St : List AV} {S : SS} : ev c 255 28 [l0, some (aI x)] L2 St S = ev c 255 29 [l0, some (aI x)] L2 (aI x :: St) S := ev_go i255_28 rfl
theorem i255_29 : insAt 255 29 = some (.invokevirtual 173, 3, (253, 1, 2, 12), 414) := rfl
theorem s255_29 {c : Nat → List AV → SS → Option Out} {l0 l1 : Option AV} {t0 : AV} {a0 : Int32} {j t : Nat} {L2 : List (Nat × AV)} {S : SS} : ev c 255 29 [l0, l1] L2 [aI a0, aR (12, j, t), t0] S = ck (c 253 [aR (12, j, t), aI a0] S) (fun v S' => ev c 255 32 [l0, l1] L2 (v.toList ++ [t0]) S') := ev_call i255_29 rfl
theorem i255_32 : insAt 255 32 = some (.invokevirtual 150, 3, (249, 1, 2, 12), 411) := rfl
theorem s255_32 {c : Nat → List AV → SS → Option Out} {l0 l1 : Option AV} {a0 : Int32} {j t : Nat} {L2 : List (Nat × AV)} {S : SS} : ev c 255 32 [l0, l1] L2 [aI a0, aR (12, j, t)] S = ck (c 249 [aR (12, j, t), aI a0] S) (fun v S' => ev c 255 35 [l0, l1] L2 (v.toList ++ []) S') := ev_call i255_32 rfl
theorem i255_35 : insAt 255 35 = some (.aload_n 0, 1, (0, 0, 0, 0), 0) := rfl
theorem s255_35 {c : Nat → List AV → SS → Option Out} {l1 : Option AV} {o : OId} {L2 : List (Nat × AV)} {St : List AV} {S : SS} : ev c 255 35 [some (aR o), l1] L2 St S = ev c 255 36 [some (aR o), l1] L2 (aR o :: St) S := ev_go i255_35 rfl
theorem i255_36 : insAt 255 36 = some (.getfield 7, 3, (12, 0, 0, 0), 364) := rfl
theorem s255_36 {c : Nat → List AV → SS → Option Out} {l0 l1 : Option AV} {j t : Nat} {L2 : List (Nat × AV)} {St : List AV} {S : SS} : ev c 255 36 [l0, l1] L2 (aR (12, j, t) :: St) S = ev c 255 39 [l0, l1] L2 (S.2.2.1 (12, j, t) 0 :: St) S := ev_go i255_36 rfl
theorem i255_39 : insAt 255 39 = some (.bipush 7, 2, (0, 0, 0, 0), 0) := rfl
theorem s255_39 {c : Nat → List AV → SS → Option Out} {l0 l1 : Option AV} {L2 : List (Nat × AV)} {St : List AV} {S : SS} : ev c 255 39 [l0, l1] L2 St S = ev c 255 41 [l0, l1] L2 (aI 7 :: St) S := ev_go i255_39 rfl
theorem i255_41 : insAt 255 41 = some (.iaload, 1, (0, 0, 0, 0), 0) := rfl
theorem s255_41 {c : Nat → List AV → SS → Option Out} {l0 l1 : Option AV} {i : Int32} {o : OId} {L2 : List (Nat × AV)} {St : List AV} {S : SS} : ev c 255 41 [l0, l1] L2 (aI i :: aR o :: St) S = kI o i (ev c 255 42 [l0, l1] L2 (aI (agI S o i.toNatClampNeg) :: St) S) := ev_iaload i255_41
theorem i255_42 : insAt 255 42 = some (.ireturn, 1, (0, 0, 0, 0), 0) := rfl
theorem s255_42 {c : Nat → List AV → SS → Option Out} {l0 l1 : Option AV} {x : Int32} {L2 : List (Nat × AV)} {S : SS} : ev c 255 42 [l0, l1] L2 [aI x] S = some (.inl (some (aI x)), S) := ev_end i255_42 rfl
theorem m255 {d : Nat} {o : OId} {a0 : Int32} {S : SS} : evm (d + 1) 255 [aR o, aI a0] S = ev (evm d) 255 0 [some (aR o), some (aI a0)] [] [] S := evm_s (n := 2) rfl (Nat.le_of_ble_eq_true rfl) rfl rfl
/-! FrequencyOfficeModel.checked(Z)I -/
theorem i256_0 : insAt 256 0 = some (.aload_n 0, 1, (0, 0, 0, 0), 0) := rfl
theorem s256_0 {c : Nat → List AV → SS → Option Out} {l1 : Option AV} {o : OId} {L2 : List (Nat × AV)} {St : List AV} {S : SS} : ev c 256 0 [some (aR o), l1] L2 St S = ev c 256 1 [some (aR o), l1] L2 (aR o :: St) S := ev_go i256_0 rfl
theorem i256_1 : insAt 256 1 = some (.iload_n 1, 1, (0, 0, 0, 0), 0) := rfl
theorem s256_1 {c : Nat → List AV → SS → Option Out} {l0 : Option AV} {x : Int32} {L2 : List (Nat × AV)} {St : List AV} {S : SS} : ev c 256 1 [l0, some (aI x)] L2 St S = ev c 256 2 [l0, some (aI x)] L2 (aI x :: St) S := ev_go i256_1 rfl
theorem i256_2 : insAt 256 2 = some (.ifCond .eq 7, 3, (0, 0, 0, 0), 0) := rfl
theorem s256_2 {c : Nat → List AV → SS → Option Out} {l0 l1 : Option AV} {x : Int32} {L2 : List (Nat × AV)} {St : List AV} {S : SS} : ev c 256 2 [l0, l1] L2 (aI x :: St) S = if x = 0 then ev c 256 9 [l0, l1] L2 St S else ev c 256 5 [l0, l1] L2 St S := ev_br i256_2 rfl
theorem i256_5 : insAt 256 5 = some (.iconst 0, 1, (0, 0, 0, 0), 0) := rfl
theorem s256_5 {c : Nat → List AV → SS → Option Out} {l0 l1 : Option AV} {L2 : List (Nat × AV)} {St : List AV} {S : SS} : ev c 256 5 [l0, l1] L2 St S = ev c 256 6 [l0, l1] L2 (aI 0 :: St) S := ev_go i256_5 rfl
theorem i256_6 : insAt 256 6 = some (.goto 4, 3, (0, 0, 0, 0), 0) := rfl
theorem s256_6 {c : Nat → List AV → SS → Option Out} {l0 l1 : Option AV} {L2 : List (Nat × AV)} {St : List AV} {S : SS} : ev c 256 6 [l0, l1] L2 St S = ev c 256 10 [l0, l1] L2 St S := ev_go i256_6 rfl
theorem i256_9 : insAt 256 9 = some (.iconst 1, 1, (0, 0, 0, 0), 0) := rfl
theorem s256_9 {c : Nat → List AV → SS → Option Out} {l0 l1 : Option AV} {L2 : List (Nat × AV)} {St : List AV} {S : SS} : ev c 256 9 [l0, l1] L2 St S = ev c 256 10 [l0, l1] L2 (aI 1 :: St) S := ev_go i256_9 rfl
theorem i256_10 : insAt 256 10 = some (.putfield 31, 3, (12, 7, 0, 0), 371) := rfl
theorem s256_10 {c : Nat → List AV → SS → Option Out} {l0 l1 : Option AV} {j t : Nat} {x : Int32} {L2 : List (Nat × AV)} {St : List AV} {S : SS} : ev c 256 10 [l0, l1] L2 (aI x :: aR (12, j, t) :: St) S = ev c 256 13 [l0, l1] L2 St (setI S.1 (12, j, t) 7 x, S.2) := ev_go i256_10 rfl
theorem i256_13 : insAt 256 13 = some (.aload_n 0, 1, (0, 0, 0, 0), 0) := rfl
theorem s256_13 {c : Nat → List AV → SS → Option Out} {l1 : Option AV} {o : OId} {L2 : List (Nat × AV)} {St : List AV} {S : SS} : ev c 256 13 [some (aR o), l1] L2 St S = ev c 256 14 [some (aR o), l1] L2 (aR o :: St) S := ev_go i256_13 rfl
theorem i256_14 : insAt 256 14 = some (.getfield 31, 3, (12, 7, 0, 0), 371) := rfl
theorem s256_14 {c : Nat → List AV → SS → Option Out} {l0 l1 : Option AV} {j t : Nat} {L2 : List (Nat × AV)} {St : List AV} {S : SS} : ev c 256 14 [l0, l1] L2 (aR (12, j, t) :: St) S = ev c 256 17 [l0, l1] L2 (aI (S.1 (12, j, t) 7) :: St) S := ev_go i256_14 rfl
theorem i256_17 : insAt 256 17 = some (.ireturn, 1, (0, 0, 0, 0), 0) := rfl
theorem s256_17 {c : Nat → List AV → SS → Option Out} {l0 l1 : Option AV} {x : Int32} {L2 : List (Nat × AV)} {S : SS} : ev c 256 17 [l0, l1] L2 [aI x] S = some (.inl (some (aI x)), S) := ev_end i256_17 rfl
theorem m256 {d : Nat} {o : OId} {a0 : Int32} {S : SS} : evm (d + 1) 256 [aR o, aI a0] S = ev (evm d) 256 0 [some (aR o), some (aI a0)] [] [] S := evm_s (n := 2) rfl (Nat.le_of_ble_eq_true rfl) rfl rfl
/-! FrequencyOfficeModel.pass(I)I -/
theorem i257_0 : insAt 257 0 = some (.aload_n 0, 1, (0, 0, 0, 0), 0) := rfl
theorem s257_0 {c : Nat → List AV → SS → Option Out} {l1 l2 l3 l4 : Option AV} {o : OId} {L2 : List (Nat × AV)} {St : List AV} {S : SS} : ev c 257 0 [some (aR o), l1, l2, l3, l4] L2 St S = ev c 257 1 [some (aR o), l1, l2, l3, l4] L2 (aR o :: St) S := ev_go i257_0 rfl
theorem i257_1 : insAt 257 1 = some (.iload_n 1, 1, (0, 0, 0, 0), 0) := rfl
theorem s257_1 {c : Nat → List AV → SS → Option Out} {l0 l2 l3 l4 : Option AV} {x : Int32} {L2 : List (Nat × AV)} {St : List AV} {S : SS} : ev c 257 1 [l0, some (aI x), l2, l3, l4] L2 St S = ev c 257 2 [l0, some (aI x), l2, l3, l4] L2 (aI x :: St) S := ev_go i257_1 rfl
theorem i257_2 : insAt 257 2 = some (.iconst 1, 1, (0, 0, 0, 0), 0) := rfl
theorem s257_2 {c : Nat → List AV → SS → Option Out} {l0 l1 l2 l3 l4 : Option AV} {L2 : List (Nat × AV)} {St : List AV} {S : SS} : ev c 257 2 [l0, l1, l2, l3, l4] L2 St S = ev c 257 3 [l0, l1, l2, l3, l4] L2 (aI 1 :: St) S := ev_go i257_2 rfl
theorem i257_3 : insAt 257 3 = some (.bipush 99, 2, (0, 0, 0, 0), 0) := rfl
theorem s257_3 {c : Nat → List AV → SS → Option Out} {l0 l1 l2 l3 l4 : Option AV} {L2 : List (Nat × AV)} {St : List AV} {S : SS} : ev c 257 3 [l0, l1, l2, l3, l4] L2 St S = ev c 257 5 [l0, l1, l2, l3, l4] L2 (aI 99 :: St) S := ev_go i257_3 rfl
theorem i257_5 : insAt 257 5 = some (.invokestatic 154, 3, (225, 3, 0, 0), 388) := rfl
theorem s257_5 {c : Nat → List AV → SS → Option Out} {l0 l1 l2 l3 l4 : Option AV} {t0 : AV} {a0 : Int32} {a1 : Int32} {a2 : Int32} {L2 : List (Nat × AV)} {S : SS} : ev c 257 5 [l0, l1, l2, l3, l4] L2 [aI a2, aI a1, aI a0, t0] S = ck (c 225 [aI a0, aI a1, aI a2] S) (fun v S' => ev c 257 8 [l0, l1, l2, l3, l4] L2 (v.toList ++ [t0]) S') := ev_call i257_5 rfl
theorem i257_8 : insAt 257 8 = some (.ifCond .ne 7, 3, (0, 0, 0, 0), 0) := rfl
theorem s257_8 {c : Nat → List AV → SS → Option Out} {l0 l1 l2 l3 l4 : Option AV} {x : Int32} {L2 : List (Nat × AV)} {St : List AV} {S : SS} : ev c 257 8 [l0, l1, l2, l3, l4] L2 (aI x :: St) S = if x = 0 then ev c 257 11 [l0, l1, l2, l3, l4] L2 St S else ev c 257 15 [l0, l1, l2, l3, l4] L2 St S := (ev_br i257_8 rfl).trans (ite_not _ _ _)
theorem i257_11 : insAt 257 11 = some (.iconst 1, 1, (0, 0, 0, 0), 0) := rfl
theorem s257_11 {c : Nat → List AV → SS → Option Out} {l0 l1 l2 l3 l4 : Option AV} {L2 : List (Nat × AV)} {St : List AV} {S : SS} : ev c 257 11 [l0, l1, l2, l3, l4] L2 St S = ev c 257 12 [l0, l1, l2, l3, l4] L2 (aI 1 :: St) S := ev_go i257_11 rfl
theorem i257_12 : insAt 257 12 = some (.goto 22, 3, (0, 0, 0, 0), 0) := rfl
theorem s257_12 {c : Nat → List AV → SS → Option Out} {l0 l1 l2 l3 l4 : Option AV} {L2 : List (Nat × AV)} {St : List AV} {S : SS} : ev c 257 12 [l0, l1, l2, l3, l4] L2 St S = ev c 257 34 [l0, l1, l2, l3, l4] L2 St S := ev_go i257_12 rfl
theorem i257_15 : insAt 257 15 = some (.aload_n 0, 1, (0, 0, 0, 0), 0) := rfl
theorem s257_15 {c : Nat → List AV → SS → Option Out} {l1 l2 l3 l4 : Option AV} {o : OId} {L2 : List (Nat × AV)} {St : List AV} {S : SS} : ev c 257 15 [some (aR o), l1, l2, l3, l4] L2 St S = ev c 257 16 [some (aR o), l1, l2, l3, l4] L2 (aR o :: St) S := ev_go i257_15 rfl
theorem i257_16 : insAt 257 16 = some (.getfield 7, 3, (12, 0, 0, 0), 364) := rfl
theorem s257_16 {c : Nat → List AV → SS → Option Out} {l0 l1 l2 l3 l4 : Option AV} {j t : Nat} {L2 : List (Nat × AV)} {St : List AV} {S : SS} : ev c 257 16 [l0, l1, l2, l3, l4] L2 (aR (12, j, t) :: St) S = ev c 257 19 [l0, l1, l2, l3, l4] L2 (S.2.2.1 (12, j, t) 0 :: St) S := ev_go i257_16 rfl
theorem i257_19 : insAt 257 19 = some (.iconst 3, 1, (0, 0, 0, 0), 0) := rfl
theorem s257_19 {c : Nat → List AV → SS → Option Out} {l0 l1 l2 l3 l4 : Option AV} {L2 : List (Nat × AV)} {St : List AV} {S : SS} : ev c 257 19 [l0, l1, l2, l3, l4] L2 St S = ev c 257 20 [l0, l1, l2, l3, l4] L2 (aI 3 :: St) S := ev_go i257_19 rfl
theorem i257_20 : insAt 257 20 = some (.iaload, 1, (0, 0, 0, 0), 0) := rfl
theorem s257_20 {c : Nat → List AV → SS → Option Out} {l0 l1 l2 l3 l4 : Option AV} {i : Int32} {o : OId} {L2 : List (Nat × AV)} {St : List AV} {S : SS} : ev c 257 20 [l0, l1, l2, l3, l4] L2 (aI i :: aR o :: St) S = kI o i (ev c 257 21 [l0, l1, l2, l3, l4] L2 (aI (agI S o i.toNatClampNeg) :: St) S) := ev_iaload i257_20
theorem i257_21 : insAt 257 21 = some (.iload_n 1, 1, (0, 0, 0, 0), 0) := rfl
theorem s257_21 {c : Nat → List AV → SS → Option Out} {l0 l2 l3 l4 : Option AV} {x : Int32} {L2 : List (Nat × AV)} {St : List AV} {S : SS} : ev c 257 21 [l0, some (aI x), l2, l3, l4] L2 St S = ev c 257 22 [l0, some (aI x), l2, l3, l4] L2 (aI x :: St) S := ev_go i257_21 rfl
theorem i257_22 : insAt 257 22 = some (.iadd, 1, (0, 0, 0, 0), 0) := rfl
theorem s257_22 {c : Nat → List AV → SS → Option Out} {l0 l1 l2 l3 l4 : Option AV} {x y : Int32} {L2 : List (Nat × AV)} {St : List AV} {S : SS} : ev c 257 22 [l0, l1, l2, l3, l4] L2 (aI y :: aI x :: St) S = ev c 257 23 [l0, l1, l2, l3, l4] L2 (aI (x + y) :: St) S := ev_go i257_22 rfl
theorem i257_23 : insAt 257 23 = some (.sipush 999, 3, (0, 0, 0, 0), 0) := rfl
theorem s257_23 {c : Nat → List AV → SS → Option Out} {l0 l1 l2 l3 l4 : Option AV} {L2 : List (Nat × AV)} {St : List AV} {S : SS} : ev c 257 23 [l0, l1, l2, l3, l4] L2 St S = ev c 257 26 [l0, l1, l2, l3, l4] L2 (aI 999 :: St) S := ev_go i257_23 rfl
theorem i257_26 : insAt 257 26 = some (.if_icmp .le 7, 3, (0, 0, 0, 0), 0) := rfl
theorem s257_26 {c : Nat → List AV → SS → Option Out} {l0 l1 l2 l3 l4 : Option AV} {x y : Int32} {L2 : List (Nat × AV)} {St : List AV} {S : SS} : ev c 257 26 [l0, l1, l2, l3, l4] L2 (aI y :: aI x :: St) S = if x ≤ y then ev c 257 33 [l0, l1, l2, l3, l4] L2 St S else ev c 257 29 [l0, l1, l2, l3, l4] L2 St S := ev_br i257_26 rfl
theorem i257_29 : insAt 257 29 = some (.iconst 2, 1, (0, 0, 0, 0), 0) := rfl
theorem s257_29 {c : Nat → List AV → SS → Option Out} {l0 l1 l2 l3 l4 : Option AV} {L2 : List (Nat × AV)} {St : List AV} {S : SS} : ev c 257 29 [l0, l1, l2, l3, l4] L2 St S = ev c 257 30 [l0, l1, l2, l3, l4] L2 (aI 2 :: St) S := ev_go i257_29 rfl
theorem i257_30 : insAt 257 30 = some (.goto 4, 3, (0, 0, 0, 0), 0) := rfl
theorem s257_30 {c : Nat → List AV → SS → Option Out} {l0 l1 l2 l3 l4 : Option AV} {L2 : List (Nat × AV)} {St : List AV} {S : SS} : ev c 257 30 [l0, l1, l2, l3, l4] L2 St S = ev c 257 34 [l0, l1, l2, l3, l4] L2 St S := ev_go i257_30 rfl
theorem i257_33 : insAt 257 33 = some (.iconst 0, 1, (0, 0, 0, 0), 0) := rfl
theorem s257_33 {c : Nat → List AV → SS → Option Out} {l0 l1 l2 l3 l4 : Option AV} {L2 : List (Nat × AV)} {St : List AV} {S : SS} : ev c 257 33 [l0, l1, l2, l3, l4] L2 St S = ev c 257 34 [l0, l1, l2, l3, l4] L2 (aI 0 :: St) S := ev_go i257_33 rfl
theorem i257_34 : insAt 257 34 = some (.putfield 31, 3, (12, 7, 0, 0), 371) := rfl
theorem s257_34 {c : Nat → List AV → SS → Option Out} {l0 l1 l2 l3 l4 : Option AV} {j t : Nat} {x : Int32} {L2 : List (Nat × AV)} {St : List AV} {S : SS} : ev c 257 34 [l0, l1, l2, l3, l4] L2 (aI x :: aR (12, j, t) :: St) S = ev c 257 37 [l0, l1, l2, l3, l4] L2 St (setI S.1 (12, j, t) 7 x, S.2) := ev_go i257_34 rfl
theorem i257_37 : insAt 257 37 = some (.aload_n 0, 1, (0, 0, 0, 0), 0) := rfl
theorem s257_37 {c : Nat → List AV → SS → Option Out} {l1 l2 l3 l4 : Option AV} {o : OId} {L2 : List (Nat × AV)} {St : List AV} {S : SS} : ev c 257 37 [some (aR o), l1, l2, l3, l4] L2 St S = ev c 257 38 [some (aR o), l1, l2, l3, l4] L2 (aR o :: St) S := ev_go i257_37 rfl
theorem i257_38 : insAt 257 38 = some (.getfield 31, 3, (12, 7, 0, 0), 371) := rfl
theorem s257_38 {c : Nat → List AV → SS → Option Out} {l0 l1 l2 l3 l4 : Option AV} {j t : Nat} {L2 : List (Nat × AV)} {St : List AV} {S : SS} : ev c 257 38 [l0, l1, l2, l3, l4] L2 (aR (12, j, t) :: St) S = ev c 257 41 [l0, l1, l2, l3, l4] L2 (aI (S.1 (12, j, t) 7) :: St) S := ev_go i257_38 rfl
theorem i257_41 : insAt 257 41 = some (.ifCond .le 5, 3, (0, 0, 0, 0), 0) := rfl
theorem s257_41 {c : Nat → List AV → SS → Option Out} {l0 l1 l2 l3 l4 : Option AV} {x : Int32} {L2 : List (Nat × AV)} {St : List AV} {S : SS} : ev c 257 41 [l0, l1, l2, l3, l4] L2 (aI x :: St) S = if x ≤ 0 then ev c 257 46 [l0, l1, l2, l3, l4] L2 St S else ev c 257 44 [l0, l1, l2, l3, l4] L2 St S := ev_br i257_41 rfl
theorem i257_44 : insAt 257 44 = some (.iconst 0, 1, (0, 0, 0, 0), 0) := rfl
theorem s257_44 {c : Nat → List AV → SS → Option Out} {l0 l1 l2 l3 l4 : Option AV} {L2 : List (Nat × AV)} {St : List AV} {S : SS} : ev c 257 44 [l0, l1, l2, l3, l4] L2 St S = ev c 257 45 [l0, l1, l2, l3, l4] L2 (aI 0 :: St) S := ev_go i257_44 rfl
theorem i257_45 : insAt 257 45 = some (.ireturn, 1, (0, 0, 0, 0), 0) := rfl
theorem s257_45 {c : Nat → List AV → SS → Option Out} {l0 l1 l2 l3 l4 : Option AV} {x : Int32} {L2 : List (Nat × AV)} {S : SS} : ev c 257 45 [l0, l1, l2, l3, l4] L2 [aI x] S = some (.inl (some (aI x)), S) := ev_end i257_45 rfl
theorem i257_46 : insAt 257 46 = some (.aload_n 0, 1, (0, 0, 0, 0), 0) := rfl
theorem s257_46 {c : Nat → List AV → SS → Option Out} {l1 l2 l3 l4 : Option AV} {o : OId} {L2 : List (Nat × AV)} {St : List AV} {S : SS} : ev c 257 46 [some (aR o), l1, l2, l3, l4] L2 St S = ev c 257 47 [some (aR o), l1, l2, l3, l4] L2 (aR o :: St) S := ev_go i257_46 rfl
theorem i257_47 : insAt 257 47 = some (.invokevirtual 86, 3, (217, 0, 2, 12), 384) := rfl
theorem s257_47 {c : Nat → List AV → SS → Option Out} {l0 l1 l2 l3 l4 : Option AV} {j t : Nat} {L2 : List (Nat × AV)} {S : SS} : ev c 257 47 [l0, l1, l2, l3, l4] L2 [aR (12, j, t)] S = ck (c 217 [aR (12, j, t)] S) (fun v S' => ev c 257 50 [l0, l1, l2, l3, l4] L2 (v.toList ++ []) S') := ev_call i257_47 rfl
theorem i257_50 : insAt 257 50 = some (.aload_n 0, 1, (0, 0, 0, 0), 0) := rfl
theorem s257_50 {c : Nat → List AV → SS → Option Out} {l1 l2 l3 l4 : Option AV} {o : OId} {L2 : List (Nat × AV)} {St : List AV} {S : SS} : ev c 257 50 [some (aR o), l1, l2, l3, l4] L2 St S = ev c 257 51 [some (aR o), l1, l2, l3, l4] L2 (aR o :: St) S := ev_go i257_50 rfl
theorem i257_51 : insAt 257 51 = some (.getfield 7, 3, (12, 0, 0, 0), 364) := rfl
theorem s257_51 {c : Nat → List AV → SS → Option Out} {l0 l1 l2 l3 l4 : Option AV} {j t : Nat} {L2 : List (Nat × AV)} {St : List AV} {S : SS} : ev c 257 51 [l0, l1, l2, l3, l4] L2 (aR (12, j, t) :: St) S = ev c 257 54 [l0, l1, l2, l3, l4] L2 (S.2.2.1 (12, j, t) 0 :: St) S := ev_go i257_51 rfl
theorem i257_54 : insAt 257 54 = some (.iconst 5, 1, (0, 0, 0, 0), 0) := rfl
theorem s257_54 {c : Nat → List AV → SS → Option Out} {l0 l1 l2 l3 l4 : Option AV} {L2 : List (Nat × AV)} {St : List AV} {S : SS} : ev c 257 54 [l0, l1, l2, l3, l4] L2 St S = ev c 257 55 [l0, l1, l2, l3, l4] L2 (aI 5 :: St) S := ev_go i257_54 rfl
theorem i257_55 : insAt 257 55 = some (.iaload, 1, (0, 0, 0, 0), 0) := rfl
theorem s257_55 {c : Nat → List AV → SS → Option Out} {l0 l1 l2 l3 l4 : Option AV} {i : Int32} {o : OId} {L2 : List (Nat × AV)} {St : List AV} {S : SS} : ev c 257 55 [l0, l1, l2, l3, l4] L2 (aI i :: aR o :: St) S = kI o i (ev c 257 56 [l0, l1, l2, l3, l4] L2 (aI (agI S o i.toNatClampNeg) :: St) S) := ev_iaload i257_55
theorem i257_56 : insAt 257 56 = some (.istore_n 2, 1, (0, 0, 0, 0), 0) := rfl
theorem s257_56 {c : Nat → List AV → SS → Option Out} {l0 l1 l2 l3 l4 : Option AV} {x : Int32} {L2 : List (Nat × AV)} {St : List AV} {S : SS} : ev c 257 56 [l0, l1, l2, l3, l4] L2 (aI x :: St) S = ev c 257 57 [l0, l1, some (aI x), l3, l4] (kil L2 2) St S := ev_go i257_56 rfl
theorem i257_57 : insAt 257 57 = some (.iconst 0, 1, (0, 0, 0, 0), 0) := rfl
theorem s257_57 {c : Nat → List AV → SS → Option Out} {l0 l1 l2 l3 l4 : Option AV} {L2 : List (Nat × AV)} {St : List AV} {S : SS} : ev c 257 57 [l0, l1, l2, l3, l4] L2 St S = ev c 257 58 [l0, l1, l2, l3, l4] L2 (aI 0 :: St) S := ev_go i257_57 rfl
theorem i257_58 : insAt 257 58 = some (.istore_n 3, 1, (0, 0, 0, 0), 0) := rfl
theorem s257_58 {c : Nat → List AV → SS → Option Out} {l0 l1 l2 l3 l4 : Option AV} {x : Int32} {L2 : List (Nat × AV)} {St : List AV} {S : SS} : ev c 257 58 [l0, l1, l2, l3, l4] L2 (aI x :: St) S = ev c 257 59 [l0, l1, l2, some (aI x), l4] (kil L2 3) St S := ev_go i257_58 rfl
theorem i257_59 : insAt 257 59 = some (.iload_n 3, 1, (0, 0, 0, 0), 0) := rfl
theorem s257_59 {c : Nat → List AV → SS → Option Out} {l0 l1 l2 l4 : Option AV} {x : Int32} {L2 : List (Nat × AV)} {St : List AV} {S : SS} : ev c 257 59 [l0, l1, l2, some (aI x), l4] L2 St S = ev c 257 60 [l0, l1, l2, some (aI x), l4] L2 (aI x :: St) S := ev_go i257_59 rfl
theorem i257_60 : insAt 257 60 = some (.iload_n 1, 1, (0, 0, 0, 0), 0) := rfl
theorem s257_60 {c : Nat → List AV → SS → Option Out} {l0 l2 l3 l4 : Option AV} {x : Int32} {L2 : List (Nat × AV)} {St : List AV} {S : SS} : ev c 257 60 [l0, some (aI x), l2, l3, l4] L2 St S = ev c 257 61 [l0, some (aI x), l2, l3, l4] L2 (aI x :: St) S := ev_go i257_60 rfl
theorem i257_61 : insAt 257 61 = some (.if_icmp .ge 76, 3, (0, 0, 0, 0), 0) := rfl
theorem s257_61 {c : Nat → List AV → SS → Option Out} {l0 l1 l2 l3 l4 : Option AV} {x y : Int32} {L2 : List (Nat × AV)} {St : List AV} {S : SS} : ev c 257 61 [l0, l1, l2, l3, l4] L2 (aI y :: aI x :: St) S = if y ≤ x then ev c 257 137 [l0, l1, l2, l3, l4] L2 St S else ev c 257 64 [l0, l1, l2, l3, l4] L2 St S := ev_br i257_61 rfl
theorem i257_64 : insAt 257 64 = some (.aload_n 0, 1, (0, 0, 0, 0), 0) := rfl
theorem s257_64 {c : Nat → List AV → SS → Option Out} {l1 l2 l3 l4 : Option AV} {o : OId} {L2 : List (Nat × AV)} {St : List AV} {S : SS} : ev c 257 64 [some (aR o), l1, l2, l3, l4] L2 St S = ev c 257 65 [some (aR o), l1, l2, l3, l4] L2 (aR o :: St) S := ev_go i257_64 rfl
theorem i257_65 : insAt 257 65 = some (.getfield 7, 3, (12, 0, 0, 0), 364) := rfl
theorem s257_65 {c : Nat → List AV → SS → Option Out} {l0 l1 l2 l3 l4 : Option AV} {j t : Nat} {L2 : List (Nat × AV)} {St : List AV} {S : SS} : ev c 257 65 [l0, l1, l2, l3, l4] L2 (aR (12, j, t) :: St) S = ev c 257 68 [l0, l1, l2, l3, l4] L2 (S.2.2.1 (12, j, t) 0 :: St) S := ev_go i257_65 rfl
theorem i257_68 : insAt 257 68 = some (.iconst 3, 1, (0, 0, 0, 0), 0) := rfl
theorem s257_68 {c : Nat → List AV → SS → Option Out} {l0 l1 l2 l3 l4 : Option AV} {L2 : List (Nat × AV)} {St : List AV} {S : SS} : ev c 257 68 [l0, l1, l2, l3, l4] L2 St S = ev c 257 69 [l0, l1, l2, l3, l4] L2 (aI 3 :: St) S := ev_go i257_68 rfl
theorem i257_69 : insAt 257 69 = some (.dup2, 1, (0, 0, 0, 0), 0) := rfl
theorem s257_69 {c : Nat → List AV → SS → Option Out} {l0 l1 l2 l3 l4 : Option AV} {x : Int32} {y : OId} {L2 : List (Nat × AV)} {St : List AV} {S : SS} : ev c 257 69 [l0, l1, l2, l3, l4] L2 (aI x :: aR y :: St) S = ev c 257 70 [l0, l1, l2, l3, l4] L2 (aI x :: aR y :: aI x :: aR y :: St) S := ev_go i257_69 rfl
theorem i257_70 : insAt 257 70 = some (.iaload, 1, (0, 0, 0, 0), 0) := rfl
theorem s257_70 {c : Nat → List AV → SS → Option Out} {l0 l1 l2 l3 l4 : Option AV} {i : Int32} {o : OId} {L2 : List (Nat × AV)} {St : List AV} {S : SS} : ev c 257 70 [l0, l1, l2, l3, l4] L2 (aI i :: aR o :: St) S = kI o i (ev c 257 71 [l0, l1, l2, l3, l4] L2 (aI (agI S o i.toNatClampNeg) :: St) S) := ev_iaload i257_70
theorem i257_71 : insAt 257 71 = some (.iconst 1, 1, (0, 0, 0, 0), 0) := rfl
theorem s257_71 {c : Nat → List AV → SS → Option Out} {l0 l1 l2 l3 l4 : Option AV} {L2 : List (Nat × AV)} {St : List AV} {S : SS} : ev c 257 71 [l0, l1, l2, l3, l4] L2 St S = ev c 257 72 [l0, l1, l2, l3, l4] L2 (aI 1 :: St) S := ev_go i257_71 rfl
theorem i257_72 : insAt 257 72 = some (.iadd, 1, (0, 0, 0, 0), 0) := rfl
theorem s257_72 {c : Nat → List AV → SS → Option Out} {l0 l1 l2 l3 l4 : Option AV} {x y : Int32} {L2 : List (Nat × AV)} {St : List AV} {S : SS} : ev c 257 72 [l0, l1, l2, l3, l4] L2 (aI y :: aI x :: St) S = ev c 257 73 [l0, l1, l2, l3, l4] L2 (aI (x + y) :: St) S := ev_go i257_72 rfl
theorem i257_73 : insAt 257 73 = some (.iastore, 1, (0, 0, 0, 0), 0) := rfl
theorem s257_73 {c : Nat → List AV → SS → Option Out} {l0 l1 l2 l3 l4 : Option AV} {x i : Int32} {o : OId} {L2 : List (Nat × AV)} {St : List AV} {S : SS} : ev c 257 73 [l0, l1, l2, l3, l4] L2 (aI x :: aI i :: aR o :: St) S = kIw o i (ev c 257 74 [l0, l1, l2, l3, l4] L2 St (setI S.1 o i.toNatClampNeg x, S.2)) := ev_iastore i257_73
theorem i257_74 : insAt 257 74 = some (.aload_n 0, 1, (0, 0, 0, 0), 0) := rfl
theorem s257_74 {c : Nat → List AV → SS → Option Out} {l1 l2 l3 l4 : Option AV} {o : OId} {L2 : List (Nat × AV)} {St : List AV} {S : SS} : ev c 257 74 [some (aR o), l1, l2, l3, l4] L2 St S = ev c 257 75 [some (aR o), l1, l2, l3, l4] L2 (aR o :: St) S := ev_go i257_74 rfl
theorem i257_75 : insAt 257 75 = some (.getfield 7, 3, (12, 0, 0, 0), 364) := rfl
theorem s257_75 {c : Nat → List AV → SS → Option Out} {l0 l1 l2 l3 l4 : Option AV} {j t : Nat} {L2 : List (Nat × AV)} {St : List AV} {S : SS} : ev c 257 75 [l0, l1, l2, l3, l4] L2 (aR (12, j, t) :: St) S = ev c 257 78 [l0, l1, l2, l3, l4] L2 (S.2.2.1 (12, j, t) 0 :: St) S := ev_go i257_75 rfl
theorem i257_78 : insAt 257 78 = some (.bipush 7, 2, (0, 0, 0, 0), 0) := rfl
theorem s257_78 {c : Nat → List AV → SS → Option Out} {l0 l1 l2 l3 l4 : Option AV} {L2 : List (Nat × AV)} {St : List AV} {S : SS} : ev c 257 78 [l0, l1, l2, l3, l4] L2 St S = ev c 257 80 [l0, l1, l2, l3, l4] L2 (aI 7 :: St) S := ev_go i257_78 rfl
theorem i257_80 : insAt 257 80 = some (.iaload, 1, (0, 0, 0, 0), 0) := rfl
theorem s257_80 {c : Nat → List AV → SS → Option Out} {l0 l1 l2 l3 l4 : Option AV} {i : Int32} {o : OId} {L2 : List (Nat × AV)} {St : List AV} {S : SS} : ev c 257 80 [l0, l1, l2, l3, l4] L2 (aI i :: aR o :: St) S = kI o i (ev c 257 81 [l0, l1, l2, l3, l4] L2 (aI (agI S o i.toNatClampNeg) :: St) S) := ev_iaload i257_80
theorem i257_81 : insAt 257 81 = some (.iconst 1, 1, (0, 0, 0, 0), 0) := rfl
theorem s257_81 {c : Nat → List AV → SS → Option Out} {l0 l1 l2 l3 l4 : Option AV} {L2 : List (Nat × AV)} {St : List AV} {S : SS} : ev c 257 81 [l0, l1, l2, l3, l4] L2 St S = ev c 257 82 [l0, l1, l2, l3, l4] L2 (aI 1 :: St) S := ev_go i257_81 rfl
theorem i257_82 : insAt 257 82 = some (.isub, 1, (0, 0, 0, 0), 0) := rfl
theorem s257_82 {c : Nat → List AV → SS → Option Out} {l0 l1 l2 l3 l4 : Option AV} {x y : Int32} {L2 : List (Nat × AV)} {St : List AV} {S : SS} : ev c 257 82 [l0, l1, l2, l3, l4] L2 (aI y :: aI x :: St) S = ev c 257 83 [l0, l1, l2, l3, l4] L2 (aI (x - y) :: St) S := ev_go i257_82 rfl
theorem i257_83 : insAt 257 83 = some (.istore 4, 2, (0, 0, 0, 0), 0) := rfl
theorem s257_83 {c : Nat → List AV → SS → Option Out} {l0 l1 l2 l3 l4 : Option AV} {x : Int32} {L2 : List (Nat × AV)} {St : List AV} {S : SS} : ev c 257 83 [l0, l1, l2, l3, l4] L2 (aI x :: St) S = ev c 257 85 [l0, l1, l2, l3, some (aI x)] (kil L2 4) St S := ev_go i257_83 rfl
theorem i257_85 : insAt 257 85 = some (.iload 4, 2, (0, 0, 0, 0), 0) := rfl
theorem s257_85 {c : Nat → List AV → SS → Option Out} {l0 l1 l2 l3 : Option AV} {x : Int32} {L2 : List (Nat × AV)} {St : List AV} {S : SS} : ev c 257 85 [l0, l1, l2, l3, some (aI x)] L2 St S = ev c 257 87 [l0, l1, l2, l3, some (aI x)] L2 (aI x :: St) S := ev_go i257_85 rfl
theorem i257_87 : insAt 257 87 = some (.ifCond .lt 44, 3, (0, 0, 0, 0), 0) := rfl
theorem s257_87 {c : Nat → List AV → SS → Option Out} {l0 l1 l2 l3 l4 : Option AV} {x : Int32} {L2 : List (Nat × AV)} {St : List AV} {S : SS} : ev c 257 87 [l0, l1, l2, l3, l4] L2 (aI x :: St) S = if x < 0 then ev c 257 131 [l0, l1, l2, l3, l4] L2 St S else ev c 257 90 [l0, l1, l2, l3, l4] L2 St S := ev_br i257_87 rfl
theorem i257_90 : insAt 257 90 = some (.aload_n 0, 1, (0, 0, 0, 0), 0) := rfl
theorem s257_90 {c : Nat → List AV → SS → Option Out} {l1 l2 l3 l4 : Option AV} {o : OId} {L2 : List (Nat × AV)} {St : List AV} {S : SS} : ev c 257 90 [some (aR o), l1, l2, l3, l4] L2 St S = ev c 257 91 [some (aR o), l1, l2, l3, l4] L2 (aR o :: St) S := ev_go i257_90 rfl
theorem i257_91 : insAt 257 91 = some (.iload 4, 2, (0, 0, 0, 0), 0) := rfl
theorem s257_91 {c : Nat → List AV → SS → Option Out} {l0 l1 l2 l3 : Option AV} {x : Int32} {L2 : List (Nat × AV)} {St : List AV} {S : SS} : ev c 257 91 [l0, l1, l2, l3, some (aI x)] L2 St S = ev c 257 93 [l0, l1, l2, l3, some (aI x)] L2 (aI x :: St) S := ev_go i257_91 rfl
theorem i257_93 : insAt 257 93 = some (.iconst 4, 1, (0, 0, 0, 0), 0) := rfl
theorem s257_93 {c : Nat → List AV → SS → Option Out} {l0 l1 l2 l3 l4 : Option AV} {L2 : List (Nat × AV)} {St : List AV} {S : SS} : ev c 257 93 [l0, l1, l2, l3, l4] L2 St S = ev c 257 94 [l0, l1, l2, l3, l4] L2 (aI 4 :: St) S := ev_go i257_93 rfl
theorem i257_94 : insAt 257 94 = some (.invokevirtual 75, 3, (231, 2, 2, 12), 396) := rfl
theorem s257_94 {c : Nat → List AV → SS → Option Out} {l0 l1 l2 l3 l4 : Option AV} {a0 : Int32} {a1 : Int32} {j t : Nat} {L2 : List (Nat × AV)} {S : SS} : ev c 257 94 [l0, l1, l2, l3, l4] L2 [aI a1, aI a0, aR (12, j, t)] S = ck (c 231 [aR (12, j, t), aI a0, aI a1] S) (fun v S' => ev c 257 97 [l0, l1, l2, l3, l4] L2 (v.toList ++ []) S') := ev_call i257_94 rfl
theorem i257_97 : insAt 257 97 = some (.aload_n 0, 1, (0, 0, 0, 0), 0) := rfl
theorem s257_97 {c : Nat → List AV → SS → Option Out} {l1 l2 l3 l4 : Option AV} {o : OId} {L2 : List (Nat × AV)} {St : List AV} {S : SS} : ev c 257 97 [some (aR o), l1, l2, l3, l4] L2 St S = ev c 257 98 [some (aR o), l1, l2, l3, l4] L2 (aR o :: St) S := ev_go i257_97 rfl
theorem i257_98 : insAt 257 98 = some (.getfield 7, 3, (12, 0, 0, 0), 364) := rfl
theorem s257_98 {c : Nat → List AV → SS → Option Out} {l0 l1 l2 l3 l4 : Option AV} {j t : Nat} {L2 : List (Nat × AV)} {St : List AV} {S : SS} : ev c 257 98 [l0, l1, l2, l3, l4] L2 (aR (12, j, t) :: St) S = ev c 257 101 [l0, l1, l2, l3, l4] L2 (S.2.2.1 (12, j, t) 0 :: St) S := ev_go i257_98 rfl
theorem i257_101 : insAt 257 101 = some (.iconst 3, 1, (0, 0, 0, 0), 0) := rfl
theorem s257_101 {c : Nat → List AV → SS → Option Out} {l0 l1 l2 l3 l4 : Option AV} {L2 : List (Nat × AV)} {St : List AV} {S : SS} : ev c 257 101 [l0, l1, l2, l3, l4] L2 St S = ev c 257 102 [l0, l1, l2, l3, l4] L2 (aI 3 :: St) S := ev_go i257_101 rfl
theorem i257_102 : insAt 257 102 = some (.iaload, 1, (0, 0, 0, 0), 0) := rfl
theorem s257_102 {c : Nat → List AV → SS → Option Out} {l0 l1 l2 l3 l4 : Option AV} {i : Int32} {o : OId} {L2 : List (Nat × AV)} {St : List AV} {S : SS} : ev c 257 102 [l0, l1, l2, l3, l4] L2 (aI i :: aR o :: St) S = kI o i (ev c 257 103 [l0, l1, l2, l3, l4] L2 (aI (agI S o i.toNatClampNeg) :: St) S) := ev_iaload i257_102
theorem i257_103 : insAt 257 103 = some (.if_icmp .eq 6, 3, (0, 0, 0, 0), 0) := rfl
theorem s257_103 {c : Nat → List AV → SS → Option Out} {l0 l1 l2 l3 l4 : Option AV} {x y : Int32} {L2 : List (Nat × AV)} {St : List AV} {S : SS} : ev c 257 103 [l0, l1, l2, l3, l4] L2 (aI y :: aI x :: St) S = if x = y then ev c 257 109 [l0, l1, l2, l3, l4] L2 St S else ev c 257 106 [l0, l1, l2, l3, l4] L2 St S := ev_br i257_103 rfl
theorem i257_106 : insAt 257 106 = some (.goto 19, 3, (0, 0, 0, 0), 0) := rfl
theorem s257_106 {c : Nat → List AV → SS → Option Out} {l0 l1 l2 l3 l4 : Option AV} {L2 : List (Nat × AV)} {St : List AV} {S : SS} : ev c 257 106 [l0, l1, l2, l3, l4] L2 St S = ev c 257 125 [l0, l1, l2, l3, l4] L2 St S := ev_go i257_106 rfl
theorem i257_109 : insAt 257 109 = some (.aload_n 0, 1, (0, 0, 0, 0), 0) := rfl
theorem s257_109 {c : Nat → List AV → SS → Option Out} {l1 l2 l3 l4 : Option AV} {o : OId} {L2 : List (Nat × AV)} {St : List AV} {S : SS} : ev c 257 109 [some (aR o), l1, l2, l3, l4] L2 St S = ev c 257 110 [some (aR o), l1, l2, l3, l4] L2 (aR o :: St) S := ev_go i257_109 rfl
theorem i257_110 : insAt 257 110 = some (.iload 4, 2, (0, 0, 0, 0), 0) := rfl
theorem s257_110 {c : Nat → List AV → SS → Option Out} {l0 l1 l2 l3 : Option AV} {x : Int32} {L2 : List (Nat × AV)} {St : List AV} {S : SS} : ev c 257 110 [l0, l1, l2, l3, some (aI x)] L2 St S = ev c 257 112 [l0, l1, l2, l3, some (aI x)] L2 (aI x :: St) S := ev_go i257_110 rfl
theorem i257_112 : insAt 257 112 = some (.invokevirtual 150, 3, (249, 1, 2, 12), 411) := rfl
theorem s257_112 {c : Nat → List AV → SS → Option Out} {l0 l1 l2 l3 l4 : Option AV} {a0 : Int32} {j t : Nat} {L2 : List (Nat × AV)} {S : SS} : ev c 257 112 [l0, l1, l2, l3, l4] L2 [aI a0, aR (12, j, t)] S = ck (c 249 [aR (12, j, t), aI a0] S) (fun v S' => ev c 257 115 [l0, l1, l2, l3, l4] L2 (v.toList ++ []) S') := ev_call i257_112 rfl
theorem i257_115 : insAt 257 115 = some (.aload_n 0, 1, (0, 0, 0, 0), 0) := rfl
theorem s257_115 {c : Nat → List AV → SS → Option Out} {l1 l2 l3 l4 : Option AV} {o : OId} {L2 : List (Nat × AV)} {St : List AV} {S : SS} : ev c 257 115 [some (aR o), l1, l2, l3, l4] L2 St S = ev c 257 116 [some (aR o), l1, l2, l3, l4] L2 (aR o :: St) S := ev_go i257_115 rfl
theorem i257_116 : insAt 257 116 = some (.getfield 7, 3, (12, 0, 0, 0), 364) := rfl
theorem s257_116 {c : Nat → List AV → SS → Option Out} {l0 l1 l2 l3 l4 : Option AV} {j t : Nat} {L2 : List (Nat × AV)} {St : List AV} {S : SS} : ev c 257 116 [l0, l1, l2, l3, l4] L2 (aR (12, j, t) :: St) S = ev c 257 119 [l0, l1, l2, l3, l4] L2 (S.2.2.1 (12, j, t) 0 :: St) S := ev_go i257_116 rfl
theorem i257_119 : insAt 257 119 = some (.iconst 5, 1, (0, 0, 0, 0), 0) := rfl
theorem s257_119 {c : Nat → List AV → SS → Option Out} {l0 l1 l2 l3 l4 : Option AV} {L2 : List (Nat × AV)} {St : List AV} {S : SS} : ev c 257 119 [l0, l1, l2, l3, l4] L2 St S = ev c 257 120 [l0, l1, l2, l3, l4] L2 (aI 5 :: St) S := ev_go i257_119 rfl
theorem i257_120 : insAt 257 120 = some (.dup2, 1, (0, 0, 0, 0), 0) := rfl
theorem s257_120 {c : Nat → List AV → SS → Option Out} {l0 l1 l2 l3 l4 : Option AV} {x : Int32} {y : OId} {L2 : List (Nat × AV)} {St : List AV} {S : SS} : ev c 257 120 [l0, l1, l2, l3, l4] L2 (aI x :: aR y :: St) S = ev c 257 121 [l0, l1, l2, l3, l4] L2 (aI x :: aR y :: aI x :: aR y :: St) S := ev_go i257_120 rfl
theorem i257_121 : insAt 257 121 = some (.iaload, 1, (0, 0, 0, 0), 0) := rfl
theorem s257_121 {c : Nat → List AV → SS → Option Out} {l0 l1 l2 l3 l4 : Option AV} {i : Int32} {o : OId} {L2 : List (Nat × AV)} {St : List AV} {S : SS} : ev c 257 121 [l0, l1, l2, l3, l4] L2 (aI i :: aR o :: St) S = kI o i (ev c 257 122 [l0, l1, l2, l3, l4] L2 (aI (agI S o i.toNatClampNeg) :: St) S) := ev_iaload i257_121
theorem i257_122 : insAt 257 122 = some (.iconst 1, 1, (0, 0, 0, 0), 0) := rfl
theorem s257_122 {c : Nat → List AV → SS → Option Out} {l0 l1 l2 l3 l4 : Option AV} {L2 : List (Nat × AV)} {St : List AV} {S : SS} : ev c 257 122 [l0, l1, l2, l3, l4] L2 St S = ev c 257 123 [l0, l1, l2, l3, l4] L2 (aI 1 :: St) S := ev_go i257_122 rfl
theorem i257_123 : insAt 257 123 = some (.iadd, 1, (0, 0, 0, 0), 0) := rfl
theorem s257_123 {c : Nat → List AV → SS → Option Out} {l0 l1 l2 l3 l4 : Option AV} {x y : Int32} {L2 : List (Nat × AV)} {St : List AV} {S : SS} : ev c 257 123 [l0, l1, l2, l3, l4] L2 (aI y :: aI x :: St) S = ev c 257 124 [l0, l1, l2, l3, l4] L2 (aI (x + y) :: St) S := ev_go i257_123 rfl
theorem i257_124 : insAt 257 124 = some (.iastore, 1, (0, 0, 0, 0), 0) := rfl
theorem s257_124 {c : Nat → List AV → SS → Option Out} {l0 l1 l2 l3 l4 : Option AV} {x i : Int32} {o : OId} {L2 : List (Nat × AV)} {St : List AV} {S : SS} : ev c 257 124 [l0, l1, l2, l3, l4] L2 (aI x :: aI i :: aR o :: St) S = kIw o i (ev c 257 125 [l0, l1, l2, l3, l4] L2 St (setI S.1 o i.toNatClampNeg x, S.2)) := ev_iastore i257_124
theorem i257_125 : insAt 257 125 = some (.iinc 4 (-1), 3, (0, 0, 0, 0), 0) := rfl
theorem s257_125 {c : Nat → List AV → SS → Option Out} {l0 l1 l2 l3 : Option AV} {x : Int32} {L2 : List (Nat × AV)} {St : List AV} {S : SS} : ev c 257 125 [l0, l1, l2, l3, some (aI x)] L2 St S = ev c 257 128 [l0, l1, l2, l3, some (aI (x + (-1)))] (kil L2 4) St S := ev_go i257_125 rfl
theorem i257_128 : insAt 257 128 = some (.goto (-43), 3, (0, 0, 0, 0), 0) := rfl
theorem s257_128 {c : Nat → List AV → SS → Option Out} {l0 l1 l2 l3 l4 : Option AV} {L2 : List (Nat × AV)} {St : List AV} {S : SS} : ev c 257 128 [l0, l1, l2, l3, l4] L2 St S = ev c 257 85 [l0, l1, l2, l3, l4] L2 St S := ev_go i257_128 rfl
theorem i257_131 : insAt 257 131 = some (.iinc 3 1, 3, (0, 0, 0, 0), 0) := rfl
theorem s257_131 {c : Nat → List AV → SS → Option Out} {l0 l1 l2 l4 : Option AV} {x : Int32} {L2 : List (Nat × AV)} {St : List AV} {S : SS} : ev c 257 131 [l0, l1, l2, some (aI x), l4] L2 St S = ev c 257 134 [l0, l1, l2, some (aI (x + 1)), l4] (kil L2 3) St S := ev_go i257_131 rfl
theorem i257_134 : insAt 257 134 = some (.goto (-75), 3, (0, 0, 0, 0), 0) := rfl
theorem s257_134 {c : Nat → List AV → SS → Option Out} {l0 l1 l2 l3 l4 : Option AV} {L2 : List (Nat × AV)} {St : List AV} {S : SS} : ev c 257 134 [l0, l1, l2, l3, l4] L2 St S = ev c 257 59 [l0, l1, l2, l3, l4] L2 St S := ev_go i257_134 rfl
theorem i257_137 : insAt 257 137 = some (.aload_n 0, 1, (0, 0, 0, 0), 0) := rfl
theorem s257_137 {c : Nat → List AV → SS → Option Out} {l1 l2 l3 l4 : Option AV} {o : OId} {L2 : List (Nat × AV)} {St : List AV} {S : SS} : ev c 257 137 [some (aR o), l1, l2, l3, l4] L2 St S = ev c 257 138 [some (aR o), l1, l2, l3, l4] L2 (aR o :: St) S := ev_go i257_137 rfl
theorem i257_138 : insAt 257 138 = some (.getfield 7, 3, (12, 0, 0, 0), 364) := rfl
theorem s257_138 {c : Nat → List AV → SS → Option Out} {l0 l1 l2 l3 l4 : Option AV} {j t : Nat} {L2 : List (Nat × AV)} {St : List AV} {S : SS} : ev c 257 138 [l0, l1, l2, l3, l4] L2 (aR (12, j, t) :: St) S = ev c 257 141 [l0, l1, l2, l3, l4] L2 (S.2.2.1 (12, j, t) 0 :: St) S := ev_go i257_138 rfl
theorem i257_141 : insAt 257 141 = some (.iconst 5, 1, (0, 0, 0, 0), 0) := rfl
theorem s257_141 {c : Nat → List AV → SS → Option Out} {l0 l1 l2 l3 l4 : Option AV} {L2 : List (Nat × AV)} {St : List AV} {S : SS} : ev c 257 141 [l0, l1, l2, l3, l4] L2 St S = ev c 257 142 [l0, l1, l2, l3, l4] L2 (aI 5 :: St) S := ev_go i257_141 rfl
theorem i257_142 : insAt 257 142 = some (.iaload, 1, (0, 0, 0, 0), 0) := rfl
theorem s257_142 {c : Nat → List AV → SS → Option Out} {l0 l1 l2 l3 l4 : Option AV} {i : Int32} {o : OId} {L2 : List (Nat × AV)} {St : List AV} {S : SS} : ev c 257 142 [l0, l1, l2, l3, l4] L2 (aI i :: aR o :: St) S = kI o i (ev c 257 143 [l0, l1, l2, l3, l4] L2 (aI (agI S o i.toNatClampNeg) :: St) S) := ev_iaload i257_142
theorem i257_143 : insAt 257 143 = some (.iload_n 2, 1, (0, 0, 0, 0), 0) := rfl
theorem s257_143 {c : Nat → List AV → SS → Option Out} {l0 l1 l3 l4 : Option AV} {x : Int32} {L2 : List (Nat × AV)} {St : List AV} {S : SS} : ev c 257 143 [l0, l1, some (aI x), l3, l4] L2 St S = ev c 257 144 [l0, l1, some (aI x), l3, l4] L2 (aI x :: St) S := ev_go i257_143 rfl
theorem i257_144 : insAt 257 144 = some (.isub, 1, (0, 0, 0, 0), 0) := rfl
theorem s257_144 {c : Nat → List AV → SS → Option Out} {l0 l1 l2 l3 l4 : Option AV} {x y : Int32} {L2 : List (Nat × AV)} {St : List AV} {S : SS} : ev c 257 144 [l0, l1, l2, l3, l4] L2 (aI y :: aI x :: St) S = ev c 257 145 [l0, l1, l2, l3, l4] L2 (aI (x - y) :: St) S := ev_go i257_144 rfl
theorem i257_145 : insAt 257 145 = some (.ireturn, 1, (0, 0, 0, 0), 0) := rfl
theorem s257_145 {c : Nat → List AV → SS → Option Out} {l0 l1 l2 l3 l4 : Option AV} {x : Int32} {L2 : List (Nat × AV)} {S : SS} : ev c 257 145 [l0, l1, l2, l3, l4] L2 [aI x] S = some (.inl (some (aI x)), S) := ev_end i257_145 rfl
theorem m257 {d : Nat} {o : OId} {a0 : Int32} {S : SS} : evm (d + 1) 257 [aR o, aI a0] S = ev (evm d) 257 0 [some (aR o), some (aI a0), none, none, none] [] [] S := evm_s (n := 5) rfl (Nat.le_of_ble_eq_true rfl) rfl rfl
/-! FrequencyOfficeModel.today()I -/
theorem i258_0 : insAt 258 0 = some (.aload_n 0, 1, (0, 0, 0, 0), 0) := rfl
theorem s258_0 {c : Nat → List AV → SS → Option Out} {o : OId} {L2 : List (Nat × AV)} {St : List AV} {S : SS} : ev c 258 0 [some (aR o)] L2 St S = ev c 258 1 [some (aR o)] L2 (aR o :: St) S := ev_go i258_0 rfl
theorem i258_1 : insAt 258 1 = some (.aload_n 0, 1, (0, 0, 0, 0), 0) := rfl
theorem s258_1 {c : Nat → List AV → SS → Option Out} {o : OId} {L2 : List (Nat × AV)} {St : List AV} {S : SS} : ev c 258 1 [some (aR o)] L2 St S = ev c 258 2 [some (aR o)] L2 (aR o :: St) S := ev_go i258_1 rfl
theorem i258_2 : insAt 258 2 = some (.getfield 7, 3, (12, 0, 0, 0), 364) := rfl
theorem s258_2 {c : Nat → List AV → SS → Option Out} {l0 : Option AV} {j t : Nat} {L2 : List (Nat × AV)} {St : List AV} {S : SS} : ev c 258 2 [l0] L2 (aR (12, j, t) :: St) S = ev c 258 5 [l0] L2 (S.2.2.1 (12, j, t) 0 :: St) S := ev_go i258_2 rfl
theorem i258_5 : insAt 258 5 = some (.iconst 3, 1, (0, 0, 0, 0), 0) := rfl
theorem s258_5 {c : Nat → List AV → SS → Option Out} {l0 : Option AV} {L2 : List (Nat × AV)} {St : List AV} {S : SS} : ev c 258 5 [l0] L2 St S = ev c 258 6 [l0] L2 (aI 3 :: St) S := ev_go i258_5 rfl
theorem i258_6 : insAt 258 6 = some (.iaload, 1, (0, 0, 0, 0), 0) := rfl
theorem s258_6 {c : Nat → List AV → SS → Option Out} {l0 : Option AV} {i : Int32} {o : OId} {L2 : List (Nat × AV)} {St : List AV} {S : SS} : ev c 258 6 [l0] L2 (aI i :: aR o :: St) S = kI o i (ev c 258 7 [l0] L2 (aI (agI S o i.toNatClampNeg) :: St) S) := ev_iaload i258_6
theorem i258_7 : insAt 258 7 = some (.invokevirtual 89, 3, (220, 1, 2, 12), 386) := rfl
theorem s258_7 {c : Nat → List AV → SS → Option Out} {l0 : Option AV} {a0 : Int32} {j t : Nat} {L2 : List (Nat × AV)} {S : SS} : ev c 258 7 [l0] L2 [aI a0, aR (12, j, t)] S = ck (c 220 [aR (12, j, t), aI a0] S) (fun v S' => ev c 258 10 [l0] L2 (v.toList ++ []) S') := ev_call i258_7 rfl
theorem i258_10 : insAt 258 10 = some (.ireturn, 1, (0, 0, 0, 0), 0) := rfl
theorem s258_10 {c : Nat → List AV → SS → Option Out} {l0 : Option AV} {x : Int32} {L2 : List (Nat × AV)} {S : SS} : ev c 258 10 [l0] L2 [aI x] S = some (.inl (some (aI x)), S) := ev_end i258_10 rfl
theorem m258 {d : Nat} {o : OId} {S : SS} : evm (d + 1) 258 [aR o] S = ev (evm d) 258 0 [some (aR o)] [] [] S := evm_s (n := 1) rfl (Nat.le_of_ble_eq_true rfl) rfl rfl
/-! FrequencyOfficeModel.stationCount()I -/
theorem i259_0 : insAt 259 0 = some (.aload_n 0, 1, (0, 0, 0, 0), 0) := rfl
theorem s259_0 {c : Nat → List AV → SS → Option Out} {o : OId} {L2 : List (Nat × AV)} {St : List AV} {S : SS} : ev c 259 0 [some (aR o)] L2 St S = ev c 259 1 [some (aR o)] L2 (aR o :: St) S := ev_go i259_0 rfl
theorem i259_1 : insAt 259 1 = some (.aload_n 0, 1, (0, 0, 0, 0), 0) := rfl
theorem s259_1 {c : Nat → List AV → SS → Option Out} {o : OId} {L2 : List (Nat × AV)} {St : List AV} {S : SS} : ev c 259 1 [some (aR o)] L2 St S = ev c 259 2 [some (aR o)] L2 (aR o :: St) S := ev_go i259_1 rfl
theorem i259_2 : insAt 259 2 = some (.getfield 7, 3, (12, 0, 0, 0), 364) := rfl
theorem s259_2 {c : Nat → List AV → SS → Option Out} {l0 : Option AV} {j t : Nat} {L2 : List (Nat × AV)} {St : List AV} {S : SS} : ev c 259 2 [l0] L2 (aR (12, j, t) :: St) S = ev c 259 5 [l0] L2 (S.2.2.1 (12, j, t) 0 :: St) S := ev_go i259_2 rfl
theorem i259_5 : insAt 259 5 = some (.bipush 7, 2, (0, 0, 0, 0), 0) := rfl
theorem s259_5 {c : Nat → List AV → SS → Option Out} {l0 : Option AV} {L2 : List (Nat × AV)} {St : List AV} {S : SS} : ev c 259 5 [l0] L2 St S = ev c 259 7 [l0] L2 (aI 7 :: St) S := ev_go i259_5 rfl
theorem i259_7 : insAt 259 7 = some (.iaload, 1, (0, 0, 0, 0), 0) := rfl
theorem s259_7 {c : Nat → List AV → SS → Option Out} {l0 : Option AV} {i : Int32} {o : OId} {L2 : List (Nat × AV)} {St : List AV} {S : SS} : ev c 259 7 [l0] L2 (aI i :: aR o :: St) S = kI o i (ev c 259 8 [l0] L2 (aI (agI S o i.toNatClampNeg) :: St) S) := ev_iaload i259_7
theorem i259_8 : insAt 259 8 = some (.invokevirtual 89, 3, (220, 1, 2, 12), 386) := rfl
theorem s259_8 {c : Nat → List AV → SS → Option Out} {l0 : Option AV} {a0 : Int32} {j t : Nat} {L2 : List (Nat × AV)} {S : SS} : ev c 259 8 [l0] L2 [aI a0, aR (12, j, t)] S = ck (c 220 [aR (12, j, t), aI a0] S) (fun v S' => ev c 259 11 [l0] L2 (v.toList ++ []) S') := ev_call i259_8 rfl
theorem i259_11 : insAt 259 11 = some (.ireturn, 1, (0, 0, 0, 0), 0) := rfl
theorem s259_11 {c : Nat → List AV → SS → Option Out} {l0 : Option AV} {x : Int32} {L2 : List (Nat × AV)} {S : SS} : ev c 259 11 [l0] L2 [aI x] S = some (.inl (some (aI x)), S) := ev_end i259_11 rfl
theorem m259 {d : Nat} {o : OId} {S : SS} : evm (d + 1) 259 [aR o] S = ev (evm d) 259 0 [some (aR o)] [] [] S := evm_s (n := 1) rfl (Nat.le_of_ble_eq_true rfl) rfl rfl
/-! FrequencyOfficeModel.licensedCount()I -/
theorem i260_0 : insAt 260 0 = some (.aload_n 0, 1, (0, 0, 0, 0), 0) := rfl
theorem s260_0 {c : Nat → List AV → SS → Option Out} {o : OId} {L2 : List (Nat × AV)} {St : List AV} {S : SS} : ev c 260 0 [some (aR o)] L2 St S = ev c 260 1 [some (aR o)] L2 (aR o :: St) S := ev_go i260_0 rfl
theorem i260_1 : insAt 260 1 = some (.aload_n 0, 1, (0, 0, 0, 0), 0) := rfl
theorem s260_1 {c : Nat → List AV → SS → Option Out} {o : OId} {L2 : List (Nat × AV)} {St : List AV} {S : SS} : ev c 260 1 [some (aR o)] L2 St S = ev c 260 2 [some (aR o)] L2 (aR o :: St) S := ev_go i260_1 rfl
theorem i260_2 : insAt 260 2 = some (.invokevirtual 180, 3, (261, 0, 2, 12), 416) := rfl
theorem s260_2 {c : Nat → List AV → SS → Option Out} {l0 : Option AV} {t0 : AV} {j t : Nat} {L2 : List (Nat × AV)} {S : SS} : ev c 260 2 [l0] L2 [aR (12, j, t), t0] S = ck (c 261 [aR (12, j, t)] S) (fun v S' => ev c 260 5 [l0] L2 (v.toList ++ [t0]) S') := ev_call i260_2 rfl
theorem i260_5 : insAt 260 5 = some (.invokevirtual 89, 3, (220, 1, 2, 12), 386) := rfl
theorem s260_5 {c : Nat → List AV → SS → Option Out} {l0 : Option AV} {a0 : Int32} {j t : Nat} {L2 : List (Nat × AV)} {S : SS} : ev c 260 5 [l0] L2 [aI a0, aR (12, j, t)] S = ck (c 220 [aR (12, j, t), aI a0] S) (fun v S' => ev c 260 8 [l0] L2 (v.toList ++ []) S') := ev_call i260_5 rfl
theorem i260_8 : insAt 260 8 = some (.ireturn, 1, (0, 0, 0, 0), 0) := rfl
theorem s260_8 {c : Nat → List AV → SS → Option Out} {l0 : Option AV} {x : Int32} {L2 : List (Nat × AV)} {S : SS} : ev c 260 8 [l0] L2 [aI x] S = some (.inl (some (aI x)), S) := ev_end i260_8 rfl
theorem m260 {d : Nat} {o : OId} {S : SS} : evm (d + 1) 260 [aR o] S = ev (evm d) 260 0 [some (aR o)] [] [] S := evm_s (n := 1) rfl (Nat.le_of_ble_eq_true rfl) rfl rfl
/-! FrequencyOfficeModel.licensed()I -/
theorem i261_0 : insAt 261 0 = some (.iconst 0, 1, (0, 0, 0, 0), 0) := rfl
theorem s261_0 {c : Nat → List AV → SS → Option Out} {l0 l1 l2 : Option AV} {L2 : List (Nat × AV)} {St : List AV} {S : SS} : ev c 261 0 [l0, l1, l2] L2 St S = ev c 261 1 [l0, l1, l2] L2 (aI 0 :: St) S := ev_go i261_0 rfl
theorem i261_1 : insAt 261 1 = some (.istore_n 1, 1, (0, 0, 0, 0), 0) := rfl
theorem s261_1 {c : Nat → List AV → SS → Option Out} {l0 l1 l2 : Option AV} {x : Int32} {L2 : List (Nat × AV)} {St : List AV} {S : SS} : ev c 261 1 [l0, l1, l2] L2 (aI x :: St) S = ev c 261 2 [l0, some (aI x), l2] (kil L2 1) St S := ev_go i261_1 rfl
theorem i261_2 : insAt 261 2 = some (.iconst 0, 1, (0, 0, 0, 0), 0) := rfl
theorem s261_2 {c : Nat → List AV → SS → Option Out} {l0 l1 l2 : Option AV} {L2 : List (Nat × AV)} {St : List AV} {S : SS} : ev c 261 2 [l0, l1, l2] L2 St S = ev c 261 3 [l0, l1, l2] L2 (aI 0 :: St) S := ev_go i261_2 rfl
theorem i261_3 : insAt 261 3 = some (.istore_n 2, 1, (0, 0, 0, 0), 0) := rfl
theorem s261_3 {c : Nat → List AV → SS → Option Out} {l0 l1 l2 : Option AV} {x : Int32} {L2 : List (Nat × AV)} {St : List AV} {S : SS} : ev c 261 3 [l0, l1, l2] L2 (aI x :: St) S = ev c 261 4 [l0, l1, some (aI x)] (kil L2 2) St S := ev_go i261_3 rfl
theorem i261_4 : insAt 261 4 = some (.iload_n 2, 1, (0, 0, 0, 0), 0) := rfl
theorem s261_4 {c : Nat → List AV → SS → Option Out} {l0 l1 : Option AV} {x : Int32} {L2 : List (Nat × AV)} {St : List AV} {S : SS} : ev c 261 4 [l0, l1, some (aI x)] L2 St S = ev c 261 5 [l0, l1, some (aI x)] L2 (aI x :: St) S := ev_go i261_4 rfl
theorem i261_5 : insAt 261 5 = some (.aload_n 0, 1, (0, 0, 0, 0), 0) := rfl
theorem s261_5 {c : Nat → List AV → SS → Option Out} {l1 l2 : Option AV} {o : OId} {L2 : List (Nat × AV)} {St : List AV} {S : SS} : ev c 261 5 [some (aR o), l1, l2] L2 St S = ev c 261 6 [some (aR o), l1, l2] L2 (aR o :: St) S := ev_go i261_5 rfl
theorem i261_6 : insAt 261 6 = some (.getfield 7, 3, (12, 0, 0, 0), 364) := rfl
theorem s261_6 {c : Nat → List AV → SS → Option Out} {l0 l1 l2 : Option AV} {j t : Nat} {L2 : List (Nat × AV)} {St : List AV} {S : SS} : ev c 261 6 [l0, l1, l2] L2 (aR (12, j, t) :: St) S = ev c 261 9 [l0, l1, l2] L2 (S.2.2.1 (12, j, t) 0 :: St) S := ev_go i261_6 rfl
theorem i261_9 : insAt 261 9 = some (.bipush 7, 2, (0, 0, 0, 0), 0) := rfl
theorem s261_9 {c : Nat → List AV → SS → Option Out} {l0 l1 l2 : Option AV} {L2 : List (Nat × AV)} {St : List AV} {S : SS} : ev c 261 9 [l0, l1, l2] L2 St S = ev c 261 11 [l0, l1, l2] L2 (aI 7 :: St) S := ev_go i261_9 rfl
theorem i261_11 : insAt 261 11 = some (.iaload, 1, (0, 0, 0, 0), 0) := rfl
theorem s261_11 {c : Nat → List AV → SS → Option Out} {l0 l1 l2 : Option AV} {i : Int32} {o : OId} {L2 : List (Nat × AV)} {St : List AV} {S : SS} : ev c 261 11 [l0, l1, l2] L2 (aI i :: aR o :: St) S = kI o i (ev c 261 12 [l0, l1, l2] L2 (aI (agI S o i.toNatClampNeg) :: St) S) := ev_iaload i261_11
theorem i261_12 : insAt 261 12 = some (.if_icmp .ge 18, 3, (0, 0, 0, 0), 0) := rfl
theorem s261_12 {c : Nat → List AV → SS → Option Out} {l0 l1 l2 : Option AV} {x y : Int32} {L2 : List (Nat × AV)} {St : List AV} {S : SS} : ev c 261 12 [l0, l1, l2] L2 (aI y :: aI x :: St) S = if y ≤ x then ev c 261 30 [l0, l1, l2] L2 St S else ev c 261 15 [l0, l1, l2] L2 St S := ev_br i261_12 rfl
theorem i261_15 : insAt 261 15 = some (.iload_n 1, 1, (0, 0, 0, 0), 0) := rfl
theorem s261_15 {c : Nat → List AV → SS → Option Out} {l0 l2 : Option AV} {x : Int32} {L2 : List (Nat × AV)} {St : List AV} {S : SS} : ev c 261 15 [l0, some (aI x), l2] L2 St S = ev c 261 16 [l0, some (aI x), l2] L2 (aI x :: St) S := ev_go i261_15 rfl
theorem i261_16 : insAt 261 16 = some (.aload_n 0, 1, (0, 0, 0, 0), 0) := rfl
theorem s261_16 {c : Nat → List AV → SS → Option Out} {l1 l2 : Option AV} {o : OId} {L2 : List (Nat × AV)} {St : List AV} {S : SS} : ev c 261 16 [some (aR o), l1, l2] L2 St S = ev c 261 17 [some (aR o), l1, l2] L2 (aR o :: St) S := ev_go i261_16 rfl
theorem i261_17 : insAt 261 17 = some (.iload_n 2, 1, (0, 0, 0, 0), 0) := rfl
theorem s261_17 {c : Nat → List AV → SS → Option Out} {l0 l1 : Option AV} {x : Int32} {L2 : List (Nat × AV)} {St : List AV} {S : SS} : ev c 261 17 [l0, l1, some (aI x)] L2 St S = ev c 261 18 [l0, l1, some (aI x)] L2 (aI x :: St) S := ev_go i261_17 rfl
theorem i261_18 : insAt 261 18 = some (.iconst 5, 1, (0, 0, 0, 0), 0) := rfl
theorem s261_18 {c : Nat → List AV → SS → Option Out} {l0 l1 l2 : Option AV} {L2 : List (Nat × AV)} {St : List AV} {S : SS} : ev c 261 18 [l0, l1, l2] L2 St S = ev c 261 19 [l0, l1, l2] L2 (aI 5 :: St) S := ev_go i261_18 rfl
theorem i261_19 : insAt 261 19 = some (.invokevirtual 75, 3, (231, 2, 2, 12), 396) := rfl
theorem s261_19 {c : Nat → List AV → SS → Option Out} {l0 l1 l2 : Option AV} {t0 : AV} {a0 : Int32} {a1 : Int32} {j t : Nat} {L2 : List (Nat × AV)} {S : SS} : ev c 261 19 [l0, l1, l2] L2 [aI a1, aI a0, aR (12, j, t), t0] S = ck (c 231 [aR (12, j, t), aI a0, aI a1] S) (fun v S' => ev c 261 22 [l0, l1, l2] L2 (v.toList ++ [t0]) S') := ev_call i261_19 rfl
theorem i261_22 : insAt 261 22 = some (.iadd, 1, (0, 0, 0, 0), 0) := rfl
theorem s261_22 {c : Nat → List AV → SS → Option Out} {l0 l1 l2 : Option AV} {x y : Int32} {L2 : List (Nat × AV)} {St : List AV} {S : SS} : ev c 261 22 [l0, l1, l2] L2 (aI y :: aI x :: St) S = ev c 261 23 [l0, l1, l2] L2 (aI (x + y) :: St) S := ev_go i261_22 rfl
theorem i261_23 : insAt 261 23 = some (.istore_n 1, 1, (0, 0, 0, 0), 0) := rfl
theorem s261_23 {c : Nat → List AV → SS → Option Out} {l0 l1 l2 : Option AV} {x : Int32} {L2 : List (Nat × AV)} {St : List AV} {S : SS} : ev c 261 23 [l0, l1, l2] L2 (aI x :: St) S = ev c 261 24 [l0, some (aI x), l2] (kil L2 1) St S := ev_go i261_23 rfl
theorem i261_24 : insAt 261 24 = some (.iinc 2 1, 3, (0, 0, 0, 0), 0) := rfl
theorem s261_24 {c : Nat → List AV → SS → Option Out} {l0 l1 : Option AV} {x : Int32} {L2 : List (Nat × AV)} {St : List AV} {S : SS} : ev c 261 24 [l0, l1, some (aI x)] L2 St S = ev c 261 27 [l0, l1, some (aI (x + 1))] (kil L2 2) St S := ev_go i261_24 rfl
theorem i261_27 : insAt 261 27 = some (.goto (-23), 3, (0, 0, 0, 0), 0) := rfl
theorem s261_27 {c : Nat → List AV → SS → Option Out} {l0 l1 l2 : Option AV} {L2 : List (Nat × AV)} {St : List AV} {S : SS} : ev c 261 27 [l0, l1, l2] L2 St S = ev c 261 4 [l0, l1, l2] L2 St S := ev_go i261_27 rfl
theorem i261_30 : insAt 261 30 = some (.iload_n 1, 1, (0, 0, 0, 0), 0) := rfl
theorem s261_30 {c : Nat → List AV → SS → Option Out} {l0 l2 : Option AV} {x : Int32} {L2 : List (Nat × AV)} {St : List AV} {S : SS} : ev c 261 30 [l0, some (aI x), l2] L2 St S = ev c 261 31 [l0, some (aI x), l2] L2 (aI x :: St) S := ev_go i261_30 rfl
theorem i261_31 : insAt 261 31 = some (.ireturn, 1, (0, 0, 0, 0), 0) := rfl
theorem s261_31 {c : Nat → List AV → SS → Option Out} {l0 l1 l2 : Option AV} {x : Int32} {L2 : List (Nat × AV)} {S : SS} : ev c 261 31 [l0, l1, l2] L2 [aI x] S = some (.inl (some (aI x)), S) := ev_end i261_31 rfl
theorem m261 {d : Nat} {o : OId} {S : SS} : evm (d + 1) 261 [aR o] S = ev (evm d) 261 0 [some (aR o), none, none] [] [] S := evm_s (n := 3) rfl (Nat.le_of_ble_eq_true rfl) rfl rfl
/-! FrequencyOfficeModel.exists(I)Z -/
theorem i262_0 : insAt 262 0 = some (.aload_n 0, 1, (0, 0, 0, 0), 0) := rfl
theorem s262_0 {c : Nat → List AV → SS → Option Out} {l1 : Option AV} {o : OId} {L2 : List (Nat × AV)} {St : List AV} {S : SS} : ev c 262 0 [some (aR o), l1] L2 St S = ev c 262 1 [some (aR o), l1] L2 (aR o :: St) S := ev_go i262_0 rfl
theorem i262_1 : insAt 262 1 = some (.iconst 0, 1, (0, 0, 0, 0), 0) := rfl
theorem s262_1 {c : Nat → List AV → SS → Option Out} {l0 l1 : Option AV} {L2 : List (Nat × AV)} {St : List AV} {S : SS} : ev c 262 1 [l0, l1] L2 St S = ev c 262 2 [l0, l1] L2 (aI 0 :: St) S := ev_go i262_1 rfl
theorem i262_2 : insAt 262 2 = some (.putfield 31, 3, (12, 7, 0, 0), 371) := rfl
theorem s262_2 {c : Nat → List AV → SS → Option Out} {l0 l1 : Option AV} {j t : Nat} {x : Int32} {L2 : List (Nat × AV)} {St : List AV} {S : SS} : ev c 262 2 [l0, l1] L2 (aI x :: aR (12, j, t) :: St) S = ev c 262 5 [l0, l1] L2 St (setI S.1 (12, j, t) 7 x, S.2) := ev_go i262_2 rfl
theorem i262_5 : insAt 262 5 = some (.aload_n 0, 1, (0, 0, 0, 0), 0) := rfl
theorem s262_5 {c : Nat → List AV → SS → Option Out} {l1 : Option AV} {o : OId} {L2 : List (Nat × AV)} {St : List AV} {S : SS} : ev c 262 5 [some (aR o), l1] L2 St S = ev c 262 6 [some (aR o), l1] L2 (aR o :: St) S := ev_go i262_5 rfl
theorem i262_6 : insAt 262 6 = some (.iload_n 1, 1, (0, 0, 0, 0), 0) := rfl
theorem s262_6 {c : Nat → List AV → SS → Option Out} {l0 : Option AV} {x : Int32} {L2 : List (Nat × AV)} {St : List AV} {S : SS} : ev c 262 6 [l0, some (aI x)] L2 St S = ev c 262 7 [l0, some (aI x)] L2 (aI x :: St) S := ev_go i262_6 rfl
theorem i262_7 : insAt 262 7 = some (.invokevirtual 173, 3, (253, 1, 2, 12), 414) := rfl
theorem s262_7 {c : Nat → List AV → SS → Option Out} {l0 l1 : Option AV} {a0 : Int32} {j t : Nat} {L2 : List (Nat × AV)} {S : SS} : ev c 262 7 [l0, l1] L2 [aI a0, aR (12, j, t)] S = ck (c 253 [aR (12, j, t), aI a0] S) (fun v S' => ev c 262 10 [l0, l1] L2 (v.toList ++ []) S') := ev_call i262_7 rfl
theorem i262_10 : insAt 262 10 = some (.ifCond .lt 7, 3, (0, 0, 0, 0), 0) := rfl
theorem s262_10 {c : Nat → List AV → SS → Option Out} {l0 l1 : Option AV} {x : Int32} {L2 : List (Nat × AV)} {St : List AV} {S : SS} : ev c 262 10 [l0, l1] L2 (aI x :: St) S = if x < 0 then ev c 262 17 [l0, l1] L2 St S else ev c 262 13 [l0, l1] L2 St S := ev_br i262_10 rfl
theorem i262_13 : insAt 262 13 = some (.iconst 1, 1, (0, 0, 0, 0), 0) := rfl
theorem s262_13 {c : Nat → List AV → SS → Option Out} {l0 l1 : Option AV} {L2 : List (Nat × AV)} {St : List AV} {S : SS} : ev c 262 13 [l0, l1] L2 St S = ev c 262 14 [l0, l1] L2 (aI 1 :: St) S := ev_go i262_13 rfl
theorem i262_14 : insAt 262 14 = some (.goto 4, 3, (0, 0, 0, 0), 0) := rfl
theorem s262_14 {c : Nat → List AV → SS → Option Out} {l0 l1 : Option AV} {L2 : List (Nat × AV)} {St : List AV} {S : SS} : ev c 262 14 [l0, l1] L2 St S = ev c 262 18 [l0, l1] L2 St S := ev_go i262_14 rfl
theorem i262_17 : insAt 262 17 = some (.iconst 0, 1, (0, 0, 0, 0), 0) := rfl
theorem s262_17 {c : Nat → List AV → SS → Option Out} {l0 l1 : Option AV} {L2 : List (Nat × AV)} {St : List AV} {S : SS} : ev c 262 17 [l0, l1] L2 St S = ev c 262 18 [l0, l1] L2 (aI 0 :: St) S := ev_go i262_17 rfl
theorem i262_18 : insAt 262 18 = some (.ireturn, 1, (0, 0, 0, 0), 0) := rfl
theorem s262_18 {c : Nat → List AV → SS → Option Out} {l0 l1 : Option AV} {x : Int32} {L2 : List (Nat × AV)} {S : SS} : ev c 262 18 [l0, l1] L2 [aI x] S = if x = 0 ∨ x = 1 then some (.inl (some (aI x)), S) else none := ev_rt i262_18 rfl
theorem m262 {d : Nat} {o : OId} {a0 : Int32} {S : SS} : evm (d + 1) 262 [aR o, aI a0] S = ev (evm d) 262 0 [some (aR o), some (aI a0)] [] [] S := evm_s (n := 2) rfl (Nat.le_of_ble_eq_true rfl) rfl rfl
/-! FrequencyOfficeModel.stationAt(I)I -/
theorem i263_0 : insAt 263 0 = some (.aload_n 0, 1, (0, 0, 0, 0), 0) := rfl
theorem s263_0 {c : Nat → List AV → SS → Option Out} {l1 : Option AV} {o : OId} {L2 : List (Nat × AV)} {St : List AV} {S : SS} : ev c 263 0 [some (aR o), l1] L2 St S = ev c 263 1 [some (aR o), l1] L2 (aR o :: St) S := ev_go i263_0 rfl
theorem i263_1 : insAt 263 1 = some (.iload_n 1, 1, (0, 0, 0, 0), 0) := rfl
theorem s263_1 {c : Nat → List AV → SS → Option Out} {l0 : Option AV} {x : Int32} {L2 : List (Nat × AV)} {St : List AV} {S : SS} : ev c 263 1 [l0, some (aI x)] L2 St S = ev c 263 2 [l0, some (aI x)] L2 (aI x :: St) S := ev_go i263_1 rfl
theorem i263_2 : insAt 263 2 = some (.iconst 0, 1, (0, 0, 0, 0), 0) := rfl
theorem s263_2 {c : Nat → List AV → SS → Option Out} {l0 l1 : Option AV} {L2 : List (Nat × AV)} {St : List AV} {S : SS} : ev c 263 2 [l0, l1] L2 St S = ev c 263 3 [l0, l1] L2 (aI 0 :: St) S := ev_go i263_2 rfl
theorem i263_3 : insAt 263 3 = some (.aload_n 0, 1, (0, 0, 0, 0), 0) := rfl
theorem s263_3 {c : Nat → List AV → SS → Option Out} {l1 : Option AV} {o : OId} {L2 : List (Nat × AV)} {St : List AV} {S : SS} : ev c 263 3 [some (aR o), l1] L2 St S = ev c 263 4 [some (aR o), l1] L2 (aR o :: St) S := ev_go i263_3 rfl
theorem i263_4 : insAt 263 4 = some (.getfield 7, 3, (12, 0, 0, 0), 364) := rfl
theorem s263_4 {c : Nat → List AV → SS → Option Out} {l0 l1 : Option AV} {j t : Nat} {L2 : List (Nat × AV)} {St : List AV} {S : SS} : ev c 263 4 [l0, l1] L2 (aR (12, j, t) :: St) S = ev c 263 7 [l0, l1] L2 (S.2.2.1 (12, j, t) 0 :: St) S := ev_go i263_4 rfl
theorem i263_7 : insAt 263 7 = some (.bipush 7, 2, (0, 0, 0, 0), 0) := rfl
theorem s263_7 {c : Nat → List AV → SS → Option Out} {l0 l1 : Option AV} {L2 : List (Nat × AV)} {St : List AV} {S : SS} : ev c 263 7 [l0, l1] L2 St S = ev c 263 9 [l0, l1] L2 (aI 7 :: St) S := ev_go i263_7 rfl
theorem i263_9 : insAt 263 9 = some (.iaload, 1, (0, 0, 0, 0), 0) := rfl
theorem s263_9 {c : Nat → List AV → SS → Option Out} {l0 l1 : Option AV} {i : Int32} {o : OId} {L2 : List (Nat × AV)} {St : List AV} {S : SS} : ev c 263 9 [l0, l1] L2 (aI i :: aR o :: St) S = kI o i (ev c 263 10 [l0, l1] L2 (aI (agI S o i.toNatClampNeg) :: St) S) := ev_iaload i263_9
theorem i263_10 : insAt 263 10 = some (.iconst 1, 1, (0, 0, 0, 0), 0) := rfl
theorem s263_10 {c : Nat → List AV → SS → Option Out} {l0 l1 : Option AV} {L2 : List (Nat × AV)} {St : List AV} {S : SS} : ev c 263 10 [l0, l1] L2 St S = ev c 263 11 [l0, l1] L2 (aI 1 :: St) S := ev_go i263_10 rfl
theorem i263_11 : insAt 263 11 = some (.isub, 1, (0, 0, 0, 0), 0) := rfl
theorem s263_11 {c : Nat → List AV → SS → Option Out} {l0 l1 : Option AV} {x y : Int32} {L2 : List (Nat × AV)} {St : List AV} {S : SS} : ev c 263 11 [l0, l1] L2 (aI y :: aI x :: St) S = ev c 263 12 [l0, l1] L2 (aI (x - y) :: St) S := ev_go i263_11 rfl
theorem i263_12 : insAt 263 12 = some (.invokestatic 154, 3, (225, 3, 0, 0), 388) := rfl
theorem s263_12 {c : Nat → List AV → SS → Option Out} {l0 l1 : Option AV} {t0 : AV} {a0 : Int32} {a1 : Int32} {a2 : Int32} {L2 : List (Nat × AV)} {S : SS} : ev c 263 12 [l0, l1] L2 [aI a2, aI a1, aI a0, t0] S = ck (c 225 [aI a0, aI a1, aI a2] S) (fun v S' => ev c 263 15 [l0, l1] L2 (v.toList ++ [t0]) S') := ev_call i263_12 rfl
theorem i263_15 : insAt 263 15 = some (.invokevirtual 176, 3, (256, 1, 2, 12), 415) := rfl
theorem s263_15 {c : Nat → List AV → SS → Option Out} {l0 l1 : Option AV} {a0 : Int32} {j t : Nat} {L2 : List (Nat × AV)} {S : SS} : ev c 263 15 [l0, l1] L2 [aI a0, aR (12, j, t)] S = ck (c 256 [aR (12, j, t), aI a0] S) (fun v S' => ev c 263 18 [l0, l1] L2 (v.toList ++ []) S') := ev_call i263_15 rfl
theorem i263_18 : insAt 263 18 = some (.ifCond .le 7, 3, (0, 0, 0, 0), 0) := rfl
theorem s263_18 {c : Nat → List AV → SS → Option Out} {l0 l1 : Option AV} {x : Int32} {L2 : List (Nat × AV)} {St : List AV} {S : SS} : ev c 263 18 [l0, l1] L2 (aI x :: St) S = if x ≤ 0 then ev c 263 25 [l0, l1] L2 St S else ev c 263 21 [l0, l1] L2 St S := ev_br i263_18 rfl
theorem i263_21 : insAt 263 21 = some (.iconst 0, 1, (0, 0, 0, 0), 0) := rfl
theorem s263_21 {c : Nat → List AV → SS → Option Out} {l0 l1 : Option AV} {L2 : List (Nat × AV)} {St : List AV} {S : SS} : ev c 263 21 [l0, l1] L2 St S = ev c 263 22 [l0, l1] L2 (aI 0 :: St) S := ev_go i263_21 rfl
theorem i263_22 : insAt 263 22 = some (.goto 9, 3, (0, 0, 0, 0), 0) := rfl
theorem s263_22 {c : Nat → List AV → SS → Option Out} {l0 l1 : Option AV} {L2 : List (Nat × AV)} {St : List AV} {S : SS} : ev c 263 22 [l0, l1] L2 St S = ev c 263 31 [l0, l1] L2 St S := ev_go i263_22 rfl
theorem i263_25 : insAt 263 25 = some (.aload_n 0, 1, (0, 0, 0, 0), 0) := rfl
theorem s263_25 {c : Nat → List AV → SS → Option Out} {l1 : Option AV} {o : OId} {L2 : List (Nat × AV)} {St : List AV} {S : SS} : ev c 263 25 [some (aR o), l1] L2 St S = ev c 263 26 [some (aR o), l1] L2 (aR o :: St) S := ev_go i263_25 rfl
theorem i263_26 : insAt 263 26 = some (.iload_n 1, 1, (0, 0, 0, 0), 0) := rfl
theorem s263_26 {c : Nat → List AV → SS → Option Out} {l0 : Option AV} {x : Int32} {L2 : List (Nat × AV)} {St : List AV} {S : SS} : ev c 263 26 [l0, some (aI x)] L2 St S = ev c 263 27 [l0, some (aI x)] L2 (aI x :: St) S := ev_go i263_26 rfl
theorem i263_27 : insAt 263 27 = some (.iconst 0, 1, (0, 0, 0, 0), 0) := rfl
theorem s263_27 {c : Nat → List AV → SS → Option Out} {l0 l1 : Option AV} {L2 : List (Nat × AV)} {St : List AV} {S : SS} : ev c 263 27 [l0, l1] L2 St S = ev c 263 28 [l0, l1] L2 (aI 0 :: St) S := ev_go i263_27 rfl
theorem i263_28 : insAt 263 28 = some (.invokevirtual 75, 3, (231, 2, 2, 12), 396) := rfl
theorem s263_28 {c : Nat → List AV → SS → Option Out} {l0 l1 : Option AV} {a0 : Int32} {a1 : Int32} {j t : Nat} {L2 : List (Nat × AV)} {S : SS} : ev c 263 28 [l0, l1] L2 [aI a1, aI a0, aR (12, j, t)] S = ck (c 231 [aR (12, j, t), aI a0, aI a1] S) (fun v S' => ev c 263 31 [l0, l1] L2 (v.toList ++ []) S') := ev_call i263_28 rfl
theorem i263_31 : insAt 263 31 = some (.ireturn, 1, (0, 0, 0, 0), 0) := rfl
theorem s263_31 {c : Nat → List AV → SS → Option Out} {l0 l1 : Option AV} {x : Int32} {L2 : List (Nat × AV)} {S : SS} : ev c 263 31 [l0, l1] L2 [aI x] S = some (.inl (some (aI x)), S) := ev_end i263_31 rfl
theorem m263 {d : Nat} {o : OId} {a0 : Int32} {S : SS} : evm (d + 1) 263 [aR o, aI a0] S = ev (evm d) 263 0 [some (aR o), some (aI a0)] [] [] S := evm_s (n := 2) rfl (Nat.le_of_ble_eq_true rfl) rfl rfl
/-! FrequencyOfficeModel.stationByExpiry(I)I -/
theorem i264_0 : insAt 264 0 = some (.aload_n 0, 1, (0, 0, 0, 0), 0) := rfl
theorem s264_0 {c : Nat → List AV → SS → Option Out} {l1 l2 : Option AV} {o : OId} {L2 : List (Nat × AV)} {St : List AV} {S : SS} : ev c 264 0 [some (aR o), l1, l2] L2 St S = ev c 264 1 [some (aR o), l1, l2] L2 (aR o :: St) S := ev_go i264_0 rfl
theorem i264_1 : insAt 264 1 = some (.iload_n 1, 1, (0, 0, 0, 0), 0) := rfl
theorem s264_1 {c : Nat → List AV → SS → Option Out} {l0 l2 : Option AV} {x : Int32} {L2 : List (Nat × AV)} {St : List AV} {S : SS} : ev c 264 1 [l0, some (aI x), l2] L2 St S = ev c 264 2 [l0, some (aI x), l2] L2 (aI x :: St) S := ev_go i264_1 rfl
theorem i264_2 : insAt 264 2 = some (.iconst 0, 1, (0, 0, 0, 0), 0) := rfl
theorem s264_2 {c : Nat → List AV → SS → Option Out} {l0 l1 l2 : Option AV} {L2 : List (Nat × AV)} {St : List AV} {S : SS} : ev c 264 2 [l0, l1, l2] L2 St S = ev c 264 3 [l0, l1, l2] L2 (aI 0 :: St) S := ev_go i264_2 rfl
theorem i264_3 : insAt 264 3 = some (.aload_n 0, 1, (0, 0, 0, 0), 0) := rfl
theorem s264_3 {c : Nat → List AV → SS → Option Out} {l1 l2 : Option AV} {o : OId} {L2 : List (Nat × AV)} {St : List AV} {S : SS} : ev c 264 3 [some (aR o), l1, l2] L2 St S = ev c 264 4 [some (aR o), l1, l2] L2 (aR o :: St) S := ev_go i264_3 rfl
theorem i264_4 : insAt 264 4 = some (.getfield 7, 3, (12, 0, 0, 0), 364) := rfl
theorem s264_4 {c : Nat → List AV → SS → Option Out} {l0 l1 l2 : Option AV} {j t : Nat} {L2 : List (Nat × AV)} {St : List AV} {S : SS} : ev c 264 4 [l0, l1, l2] L2 (aR (12, j, t) :: St) S = ev c 264 7 [l0, l1, l2] L2 (S.2.2.1 (12, j, t) 0 :: St) S := ev_go i264_4 rfl
theorem i264_7 : insAt 264 7 = some (.bipush 7, 2, (0, 0, 0, 0), 0) := rfl
theorem s264_7 {c : Nat → List AV → SS → Option Out} {l0 l1 l2 : Option AV} {L2 : List (Nat × AV)} {St : List AV} {S : SS} : ev c 264 7 [l0, l1, l2] L2 St S = ev c 264 9 [l0, l1, l2] L2 (aI 7 :: St) S := ev_go i264_7 rfl
theorem i264_9 : insAt 264 9 = some (.iaload, 1, (0, 0, 0, 0), 0) := rfl
theorem s264_9 {c : Nat → List AV → SS → Option Out} {l0 l1 l2 : Option AV} {i : Int32} {o : OId} {L2 : List (Nat × AV)} {St : List AV} {S : SS} : ev c 264 9 [l0, l1, l2] L2 (aI i :: aR o :: St) S = kI o i (ev c 264 10 [l0, l1, l2] L2 (aI (agI S o i.toNatClampNeg) :: St) S) := ev_iaload i264_9
theorem i264_10 : insAt 264 10 = some (.iconst 1, 1, (0, 0, 0, 0), 0) := rfl
theorem s264_10 {c : Nat → List AV → SS → Option Out} {l0 l1 l2 : Option AV} {L2 : List (Nat × AV)} {St : List AV} {S : SS} : ev c 264 10 [l0, l1, l2] L2 St S = ev c 264 11 [l0, l1, l2] L2 (aI 1 :: St) S := ev_go i264_10 rfl
theorem i264_11 : insAt 264 11 = some (.isub, 1, (0, 0, 0, 0), 0) := rfl
theorem s264_11 {c : Nat → List AV → SS → Option Out} {l0 l1 l2 : Option AV} {x y : Int32} {L2 : List (Nat × AV)} {St : List AV} {S : SS} : ev c 264 11 [l0, l1, l2] L2 (aI y :: aI x :: St) S = ev c 264 12 [l0, l1, l2] L2 (aI (x - y) :: St) S := ev_go i264_11 rfl
theorem i264_12 : insAt 264 12 = some (.invokestatic 154, 3, (225, 3, 0, 0), 388) := rfl
theorem s264_12 {c : Nat → List AV → SS → Option Out} {l0 l1 l2 : Option AV} {t0 : AV} {a0 : Int32} {a1 : Int32} {a2 : Int32} {L2 : List (Nat × AV)} {S : SS} : ev c 264 12 [l0, l1, l2] L2 [aI a2, aI a1, aI a0, t0] S = ck (c 225 [aI a0, aI a1, aI a2] S) (fun v S' => ev c 264 15 [l0, l1, l2] L2 (v.toList ++ [t0]) S') := ev_call i264_12 rfl
theorem i264_15 : insAt 264 15 = some (.invokevirtual 176, 3, (256, 1, 2, 12), 415) := rfl
theorem s264_15 {c : Nat → List AV → SS → Option Out} {l0 l1 l2 : Option AV} {a0 : Int32} {j t : Nat} {L2 : List (Nat × AV)} {S : SS} : ev c 264 15 [l0, l1, l2] L2 [aI a0, aR (12, j, t)] S = ck (c 256 [aR (12, j, t), aI a0] S) (fun v S' => ev c 264 18 [l0, l1, l2] L2 (v.toList ++ []) S') := ev_call i264_15 rfl
theorem i264_18 : insAt 264 18 = some (.ifCond .le 5, 3, (0, 0, 0, 0), 0) := rfl
theorem s264_18 {c : Nat → List AV → SS → Option Out} {l0 l1 l2 : Option AV} {x : Int32} {L2 : List (Nat × AV)} {St : List AV} {S : SS} : ev c 264 18 [l0, l1, l2] L2 (aI x :: St) S = if x ≤ 0 then ev c 264 23 [l0, l1, l2] L2 St S else ev c 264 21 [l0, l1, l2] L2 St S := ev_br i264_18 rfl
theorem i264_21 : insAt 264 21 = some (.iconst 0, 1, (0, 0, 0, 0), 0) := rfl
theorem s264_21 {c : Nat → List AV → SS → Option Out} {l0 l1 l2 : Option AV} {L2 : List (Nat × AV)} {St : List AV} {S : SS} : ev c 264 21 [l0, l1, l2] L2 St S = ev c 264 22 [l0, l1, l2] L2 (aI 0 :: St) S := ev_go i264_21 rfl
theorem i264_22 : insAt 264 22 = some (.ireturn, 1, (0, 0, 0, 0), 0) := rfl
theorem s264_22 {c : Nat → List AV → SS → Option Out} {l0 l1 l2 : Option AV} {x : Int32} {L2 : List (Nat × AV)} {S : SS} : ev c 264 22 [l0, l1, l2] L2 [aI x] S = some (.inl (some (aI x)), S) := ev_end i264_22 rfl
theorem i264_23 : insAt 264 23 = some (.iconst 0, 1, (0, 0, 0, 0), 0) := rfl
theorem s264_23 {c : Nat → List AV → SS → Option Out} {l0 l1 l2 : Option AV} {L2 : List (Nat × AV)} {St : List AV} {S : SS} : ev c 264 23 [l0, l1, l2] L2 St S = ev c 264 24 [l0, l1, l2] L2 (aI 0 :: St) S := ev_go i264_23 rfl
theorem i264_24 : insAt 264 24 = some (.istore_n 2, 1, (0, 0, 0, 0), 0) := rfl
theorem s264_24 {c : Nat → List AV → SS → Option Out} {l0 l1 l2 : Option AV} {x : Int32} {L2 : List (Nat × AV)} {St : List AV} {S : SS} : ev c 264 24 [l0, l1, l2] L2 (aI x :: St) S = ev c 264 25 [l0, l1, some (aI x)] (kil L2 2) St S := ev_go i264_24 rfl
theorem i264_25 : insAt 264 25 = some (.aload_n 0, 1, (0, 0, 0, 0), 0) := rfl
theorem s264_25 {c : Nat → List AV → SS → Option Out} {l1 l2 : Option AV} {o : OId} {L2 : List (Nat × AV)} {St : List AV} {S : SS} : ev c 264 25 [some (aR o), l1, l2] L2 St S = ev c 264 26 [some (aR o), l1, l2] L2 (aR o :: St) S := ev_go i264_25 rfl
theorem i264_26 : insAt 264 26 = some (.iload_n 2, 1, (0, 0, 0, 0), 0) := rfl
theorem s264_26 {c : Nat → List AV → SS → Option Out} {l0 l1 : Option AV} {x : Int32} {L2 : List (Nat × AV)} {St : List AV} {S : SS} : ev c 264 26 [l0, l1, some (aI x)] L2 St S = ev c 264 27 [l0, l1, some (aI x)] L2 (aI x :: St) S := ev_go i264_26 rfl
theorem i264_27 : insAt 264 27 = some (.invokevirtual 183, 3, (265, 1, 2, 12), 417) := rfl
theorem s264_27 {c : Nat → List AV → SS → Option Out} {l0 l1 l2 : Option AV} {a0 : Int32} {j t : Nat} {L2 : List (Nat × AV)} {S : SS} : ev c 264 27 [l0, l1, l2] L2 [aI a0, aR (12, j, t)] S = ck (c 265 [aR (12, j, t), aI a0] S) (fun v S' => ev c 264 30 [l0, l1, l2] L2 (v.toList ++ []) S') := ev_call i264_27 rfl
theorem i264_30 : insAt 264 30 = some (.iload_n 1, 1, (0, 0, 0, 0), 0) := rfl
theorem s264_30 {c : Nat → List AV → SS → Option Out} {l0 l2 : Option AV} {x : Int32} {L2 : List (Nat × AV)} {St : List AV} {S : SS} : ev c 264 30 [l0, some (aI x), l2] L2 St S = ev c 264 31 [l0, some (aI x), l2] L2 (aI x :: St) S := ev_go i264_30 rfl
theorem i264_31 : insAt 264 31 = some (.if_icmp .eq 9, 3, (0, 0, 0, 0), 0) := rfl
theorem s264_31 {c : Nat → List AV → SS → Option Out} {l0 l1 l2 : Option AV} {x y : Int32} {L2 : List (Nat × AV)} {St : List AV} {S : SS} : ev c 264 31 [l0, l1, l2] L2 (aI y :: aI x :: St) S = if x = y then ev c 264 40 [l0, l1, l2] L2 St S else ev c 264 34 [l0, l1, l2] L2 St S := ev_br i264_31 rfl
theorem i264_34 : insAt 264 34 = some (.iinc 2 1, 3, (0, 0, 0, 0), 0) := rfl
theorem s264_34 {c : Nat → List AV → SS → Option Out} {l0 l1 : Option AV} {x : Int32} {L2 : List (Nat × AV)} {St : List AV} {S : SS} : ev c 264 34 [l0, l1, some (aI x)] L2 St S = ev c 264 37 [l0, l1, some (aI (x + 1))] (kil L2 2) St S := ev_go i264_34 rfl
theorem i264_37 : insAt 264 37 = some (.goto (-12), 3, (0, 0, 0, 0), 0) := rfl
theorem s264_37 {c : Nat → List AV → SS → Option Out} {l0 l1 l2 : Option AV} {L2 : List (Nat × AV)} {St : List AV} {S : SS} : ev c 264 37 [l0, l1, l2] L2 St S = ev c 264 25 [l0, l1, l2] L2 St S := ev_go i264_37 rfl
theorem i264_40 : insAt 264 40 = some (.aload_n 0, 1, (0, 0, 0, 0), 0) := rfl
theorem s264_40 {c : Nat → List AV → SS → Option Out} {l1 l2 : Option AV} {o : OId} {L2 : List (Nat × AV)} {St : List AV} {S : SS} : ev c 264 40 [some (aR o), l1, l2] L2 St S = ev c 264 41 [some (aR o), l1, l2] L2 (aR o :: St) S := ev_go i264_40 rfl
theorem i264_41 : insAt 264 41 = some (.iload_n 2, 1, (0, 0, 0, 0), 0) := rfl
theorem s264_41 {c : Nat → List AV → SS → Option Out} {l0 l1 : Option AV} {x : Int32} {L2 : List (Nat × AV)} {St : List AV} {S : SS} : ev c 264 41 [l0, l1, some (aI x)] L2 St S = ev c 264 42 [l0, l1, some (aI x)] L2 (aI x :: St) S := ev_go i264_41 rfl
theorem i264_42 : insAt 264 42 = some (.iconst 0, 1, (0, 0, 0, 0), 0) := rfl
theorem s264_42 {c : Nat → List AV → SS → Option Out} {l0 l1 l2 : Option AV} {L2 : List (Nat × AV)} {St : List AV} {S : SS} : ev c 264 42 [l0, l1, l2] L2 St S = ev c 264 43 [l0, l1, l2] L2 (aI 0 :: St) S := ev_go i264_42 rfl
theorem i264_43 : insAt 264 43 = some (.invokevirtual 75, 3, (231, 2, 2, 12), 396) := rfl
theorem s264_43 {c : Nat → List AV → SS → Option Out} {l0 l1 l2 : Option AV} {a0 : Int32} {a1 : Int32} {j t : Nat} {L2 : List (Nat × AV)} {S : SS} : ev c 264 43 [l0, l1, l2] L2 [aI a1, aI a0, aR (12, j, t)] S = ck (c 231 [aR (12, j, t), aI a0, aI a1] S) (fun v S' => ev c 264 46 [l0, l1, l2] L2 (v.toList ++ []) S') := ev_call i264_43 rfl
theorem i264_46 : insAt 264 46 = some (.ireturn, 1, (0, 0, 0, 0), 0) := rfl
theorem s264_46 {c : Nat → List AV → SS → Option Out} {l0 l1 l2 : Option AV} {x : Int32} {L2 : List (Nat × AV)} {S : SS} : ev c 264 46 [l0, l1, l2] L2 [aI x] S = some (.inl (some (aI x)), S) := ev_end i264_46 rfl
theorem m264 {d : Nat} {o : OId} {a0 : Int32} {S : SS} : evm (d + 1) 264 [aR o, aI a0] S = ev (evm d) 264 0 [some (aR o), some (aI a0), none] [] [] S := evm_s (n := 3) rfl (Nat.le_of_ble_eq_true rfl) rfl rfl
/-! FrequencyOfficeModel.aheadByExpiry(I)I -/
theorem i265_0 : insAt 265 0 = some (.iconst 0, 1, (0, 0, 0, 0), 0) := rfl
theorem s265_0 {c : Nat → List AV → SS → Option Out} {l0 l1 l2 l3 : Option AV} {L2 : List (Nat × AV)} {St : List AV} {S : SS} : ev c 265 0 [l0, l1, l2, l3] L2 St S = ev c 265 1 [l0, l1, l2, l3] L2 (aI 0 :: St) S := ev_go i265_0 rfl
theorem i265_1 : insAt 265 1 = some (.istore_n 2, 1, (0, 0, 0, 0), 0) := rfl
theorem s265_1 {c : Nat → List AV → SS → Option Out} {l0 l1 l2 l3 : Option AV} {x : Int32} {L2 : List (Nat × AV)} {St : List AV} {S : SS} : ev c 265 1 [l0, l1, l2, l3] L2 (aI x :: St) S = ev c 265 2 [l0, l1, some (aI x), l3] (kil L2 2) St S := ev_go i265_1 rfl
theorem i265_2 : insAt 265 2 = some (.iconst 0, 1, (0, 0, 0, 0), 0) := rfl
theorem s265_2 {c : Nat → List AV → SS → Option Out} {l0 l1 l2 l3 : Option AV} {L2 : List (Nat × AV)} {St : List AV} {S : SS} : ev c 265 2 [l0, l1, l2, l3] L2 St S = ev c 265 3 [l0, l1, l2, l3] L2 (aI 0 :: St) S := ev_go i265_2 rfl
theorem i265_3 : insAt 265 3 = some (.istore_n 3, 1, (0, 0, 0, 0), 0) := rfl
theorem s265_3 {c : Nat → List AV → SS → Option Out} {l0 l1 l2 l3 : Option AV} {x : Int32} {L2 : List (Nat × AV)} {St : List AV} {S : SS} : ev c 265 3 [l0, l1, l2, l3] L2 (aI x :: St) S = ev c 265 4 [l0, l1, l2, some (aI x)] (kil L2 3) St S := ev_go i265_3 rfl
theorem i265_4 : insAt 265 4 = some (.iload_n 3, 1, (0, 0, 0, 0), 0) := rfl
theorem s265_4 {c : Nat → List AV → SS → Option Out} {l0 l1 l2 : Option AV} {x : Int32} {L2 : List (Nat × AV)} {St : List AV} {S : SS} : ev c 265 4 [l0, l1, l2, some (aI x)] L2 St S = ev c 265 5 [l0, l1, l2, some (aI x)] L2 (aI x :: St) S := ev_go i265_4 rfl
theorem i265_5 : insAt 265 5 = some (.aload_n 0, 1, (0, 0, 0, 0), 0) := rfl
theorem s265_5 {c : Nat → List AV → SS → Option Out} {l1 l2 l3 : Option AV} {o : OId} {L2 : List (Nat × AV)} {St : List AV} {S : SS} : ev c 265 5 [some (aR o), l1, l2, l3] L2 St S = ev c 265 6 [some (aR o), l1, l2, l3] L2 (aR o :: St) S := ev_go i265_5 rfl
theorem i265_6 : insAt 265 6 = some (.getfield 7, 3, (12, 0, 0, 0), 364) := rfl
theorem s265_6 {c : Nat → List AV → SS → Option Out} {l0 l1 l2 l3 : Option AV} {j t : Nat} {L2 : List (Nat × AV)} {St : List AV} {S : SS} : ev c 265 6 [l0, l1, l2, l3] L2 (aR (12, j, t) :: St) S = ev c 265 9 [l0, l1, l2, l3] L2 (S.2.2.1 (12, j, t) 0 :: St) S := ev_go i265_6 rfl
theorem i265_9 : insAt 265 9 = some (.bipush 7, 2, (0, 0, 0, 0), 0) := rfl
theorem s265_9 {c : Nat → List AV → SS → Option Out} {l0 l1 l2 l3 : Option AV} {L2 : List (Nat × AV)} {St : List AV} {S : SS} : ev c 265 9 [l0, l1, l2, l3] L2 St S = ev c 265 11 [l0, l1, l2, l3] L2 (aI 7 :: St) S := ev_go i265_9 rfl
theorem i265_11 : insAt 265 11 = some (.iaload, 1, (0, 0, 0, 0), 0) := rfl
theorem s265_11 {c : Nat → List AV → SS → Option Out} {l0 l1 l2 l3 : Option AV} {i : Int32} {o : OId} {L2 : List (Nat × AV)} {St : List AV} {S : SS} : ev c 265 11 [l0, l1, l2, l3] L2 (aI i :: aR o :: St) S = kI o i (ev c 265 12 [l0, l1, l2, l3] L2 (aI (agI S o i.toNatClampNeg) :: St) S) := ev_iaload i265_11
theorem i265_12 : insAt 265 12 = some (.if_icmp .ge 52, 3, (0, 0, 0, 0), 0) := rfl
theorem s265_12 {c : Nat → List AV → SS → Option Out} {l0 l1 l2 l3 : Option AV} {x y : Int32} {L2 : List (Nat × AV)} {St : List AV} {S : SS} : ev c 265 12 [l0, l1, l2, l3] L2 (aI y :: aI x :: St) S = if y ≤ x then ev c 265 64 [l0, l1, l2, l3] L2 St S else ev c 265 15 [l0, l1, l2, l3] L2 St S := ev_br i265_12 rfl
theorem i265_15 : insAt 265 15 = some (.iload_n 2, 1, (0, 0, 0, 0), 0) := rfl
theorem s265_15 {c : Nat → List AV → SS → Option Out} {l0 l1 l3 : Option AV} {x : Int32} {L2 : List (Nat × AV)} {St : List AV} {S : SS} : ev c 265 15 [l0, l1, some (aI x), l3] L2 St S = ev c 265 16 [l0, l1, some (aI x), l3] L2 (aI x :: St) S := ev_go i265_15 rfl
theorem i265_16 : insAt 265 16 = some (.aload_n 0, 1, (0, 0, 0, 0), 0) := rfl
theorem s265_16 {c : Nat → List AV → SS → Option Out} {l1 l2 l3 : Option AV} {o : OId} {L2 : List (Nat × AV)} {St : List AV} {S : SS} : ev c 265 16 [some (aR o), l1, l2, l3] L2 St S = ev c 265 17 [some (aR o), l1, l2, l3] L2 (aR o :: St) S := ev_go i265_16 rfl
theorem i265_17 : insAt 265 17 = some (.iload_n 3, 1, (0, 0, 0, 0), 0) := rfl
theorem s265_17 {c : Nat → List AV → SS → Option Out} {l0 l1 l2 : Option AV} {x : Int32} {L2 : List (Nat × AV)} {St : List AV} {S : SS} : ev c 265 17 [l0, l1, l2, some (aI x)] L2 St S = ev c 265 18 [l0, l1, l2, some (aI x)] L2 (aI x :: St) S := ev_go i265_17 rfl
theorem i265_18 : insAt 265 18 = some (.iconst 4, 1, (0, 0, 0, 0), 0) := rfl
theorem s265_18 {c : Nat → List AV → SS → Option Out} {l0 l1 l2 l3 : Option AV} {L2 : List (Nat × AV)} {St : List AV} {S : SS} : ev c 265 18 [l0, l1, l2, l3] L2 St S = ev c 265 19 [l0, l1, l2, l3] L2 (aI 4 :: St) S := ev_go i265_18 rfl
theorem i265_19 : insAt 265 19 = some (.invokevirtual 75, 3, (231, 2, 2, 12), 396) := rfl
theorem s265_19 {c : Nat → List AV → SS → Option Out} {l0 l1 l2 l3 : Option AV} {t0 : AV} {a0 : Int32} {a1 : Int32} {j t : Nat} {L2 : List (Nat × AV)} {S : SS} : ev c 265 19 [l0, l1, l2, l3] L2 [aI a1, aI a0, aR (12, j, t), t0] S = ck (c 231 [aR (12, j, t), aI a0, aI a1] S) (fun v S' => ev c 265 22 [l0, l1, l2, l3] L2 (v.toList ++ [t0]) S') := ev_call i265_19 rfl
theorem i265_22 : insAt 265 22 = some (.aload_n 0, 1, (0, 0, 0, 0), 0) := rfl
theorem s265_22 {c : Nat → List AV → SS → Option Out} {l1 l2 l3 : Option AV} {o : OId} {L2 : List (Nat × AV)} {St : List AV} {S : SS} : ev c 265 22 [some (aR o), l1, l2, l3] L2 St S = ev c 265 23 [some (aR o), l1, l2, l3] L2 (aR o :: St) S := ev_go i265_22 rfl
theorem i265_23 : insAt 265 23 = some (.iload_n 1, 1, (0, 0, 0, 0), 0) := rfl
theorem s265_23 {c : Nat → List AV → SS → Option Out} {l0 l2 l3 : Option AV} {x : Int32} {L2 : List (Nat × AV)} {St : List AV} {S : SS} : ev c 265 23 [l0, some (aI x), l2, l3] L2 St S = ev c 265 24 [l0, some (aI x), l2, l3] L2 (aI x :: St) S := ev_go i265_23 rfl
theorem i265_24 : insAt 265 24 = some (.iconst 4, 1, (0, 0, 0, 0), 0) := rfl
theorem s265_24 {c : Nat → List AV → SS → Option Out} {l0 l1 l2 l3 : Option AV} {L2 : List (Nat × AV)} {St : List AV} {S : SS} : ev c 265 24 [l0, l1, l2, l3] L2 St S = ev c 265 25 [l0, l1, l2, l3] L2 (aI 4 :: St) S := ev_go i265_24 rfl
theorem i265_25 : insAt 265 25 = some (.invokevirtual 75, 3, (231, 2, 2, 12), 396) := rfl
theorem s265_25 {c : Nat → List AV → SS → Option Out} {l0 l1 l2 l3 : Option AV} {t0 t1 : AV} {a0 : Int32} {a1 : Int32} {j t : Nat} {L2 : List (Nat × AV)} {S : SS} : ev c 265 25 [l0, l1, l2, l3] L2 [aI a1, aI a0, aR (12, j, t), t0, t1] S = ck (c 231 [aR (12, j, t), aI a0, aI a1] S) (fun v S' => ev c 265 28 [l0, l1, l2, l3] L2 (v.toList ++ [t0, t1]) S') := ev_call i265_25 rfl
theorem i265_28 : insAt 265 28 = some (.if_icmp .lt 23, 3, (0, 0, 0, 0), 0) := rfl
theorem s265_28 {c : Nat → List AV → SS → Option Out} {l0 l1 l2 l3 : Option AV} {x y : Int32} {L2 : List (Nat × AV)} {St : List AV} {S : SS} : ev c 265 28 [l0, l1, l2, l3] L2 (aI y :: aI x :: St) S = if x < y then ev c 265 51 [l0, l1, l2, l3] L2 St S else ev c 265 31 [l0, l1, l2, l3] L2 St S := ev_br i265_28 rfl
theorem i265_31 : insAt 265 31 = some (.aload_n 0, 1, (0, 0, 0, 0), 0) := rfl
theorem s265_31 {c : Nat → List AV → SS → Option Out} {l1 l2 l3 : Option AV} {o : OId} {L2 : List (Nat × AV)} {St : List AV} {S : SS} : ev c 265 31 [some (aR o), l1, l2, l3] L2 St S = ev c 265 32 [some (aR o), l1, l2, l3] L2 (aR o :: St) S := ev_go i265_31 rfl
theorem i265_32 : insAt 265 32 = some (.iload_n 3, 1, (0, 0, 0, 0), 0) := rfl
theorem s265_32 {c : Nat → List AV → SS → Option Out} {l0 l1 l2 : Option AV} {x : Int32} {L2 : List (Nat × AV)} {St : List AV} {S : SS} : ev c 265 32 [l0, l1, l2, some (aI x)] L2 St S = ev c 265 33 [l0, l1, l2, some (aI x)] L2 (aI x :: St) S := ev_go i265_32 rfl
theorem i265_33 : insAt 265 33 = some (.iconst 4, 1, (0, 0, 0, 0), 0) := rfl
theorem s265_33 {c : Nat → List AV → SS → Option Out} {l0 l1 l2 l3 : Option AV} {L2 : List (Nat × AV)} {St : List AV} {S : SS} : ev c 265 33 [l0, l1, l2, l3] L2 St S = ev c 265 34 [l0, l1, l2, l3] L2 (aI 4 :: St) S := ev_go i265_33 rfl
theorem i265_34 : insAt 265 34 = some (.invokevirtual 75, 3, (231, 2, 2, 12), 396) := rfl
theorem s265_34 {c : Nat → List AV → SS → Option Out} {l0 l1 l2 l3 : Option AV} {t0 : AV} {a0 : Int32} {a1 : Int32} {j t : Nat} {L2 : List (Nat × AV)} {S : SS} : ev c 265 34 [l0, l1, l2, l3] L2 [aI a1, aI a0, aR (12, j, t), t0] S = ck (c 231 [aR (12, j, t), aI a0, aI a1] S) (fun v S' => ev c 265 37 [l0, l1, l2, l3] L2 (v.toList ++ [t0]) S') := ev_call i265_34 rfl
theorem i265_37 : insAt 265 37 = some (.aload_n 0, 1, (0, 0, 0, 0), 0) := rfl
theorem s265_37 {c : Nat → List AV → SS → Option Out} {l1 l2 l3 : Option AV} {o : OId} {L2 : List (Nat × AV)} {St : List AV} {S : SS} : ev c 265 37 [some (aR o), l1, l2, l3] L2 St S = ev c 265 38 [some (aR o), l1, l2, l3] L2 (aR o :: St) S := ev_go i265_37 rfl
theorem i265_38 : insAt 265 38 = some (.iload_n 1, 1, (0, 0, 0, 0), 0) := rfl
theorem s265_38 {c : Nat → List AV → SS → Option Out} {l0 l2 l3 : Option AV} {x : Int32} {L2 : List (Nat × AV)} {St : List AV} {S : SS} : ev c 265 38 [l0, some (aI x), l2, l3] L2 St S = ev c 265 39 [l0, some (aI x), l2, l3] L2 (aI x :: St) S := ev_go i265_38 rfl
theorem i265_39 : insAt 265 39 = some (.iconst 4, 1, (0, 0, 0, 0), 0) := rfl
theorem s265_39 {c : Nat → List AV → SS → Option Out} {l0 l1 l2 l3 : Option AV} {L2 : List (Nat × AV)} {St : List AV} {S : SS} : ev c 265 39 [l0, l1, l2, l3] L2 St S = ev c 265 40 [l0, l1, l2, l3] L2 (aI 4 :: St) S := ev_go i265_39 rfl
theorem i265_40 : insAt 265 40 = some (.invokevirtual 75, 3, (231, 2, 2, 12), 396) := rfl
theorem s265_40 {c : Nat → List AV → SS → Option Out} {l0 l1 l2 l3 : Option AV} {t0 t1 : AV} {a0 : Int32} {a1 : Int32} {j t : Nat} {L2 : List (Nat × AV)} {S : SS} : ev c 265 40 [l0, l1, l2, l3] L2 [aI a1, aI a0, aR (12, j, t), t0, t1] S = ck (c 231 [aR (12, j, t), aI a0, aI a1] S) (fun v S' => ev c 265 43 [l0, l1, l2, l3] L2 (v.toList ++ [t0, t1]) S') := ev_call i265_40 rfl
theorem i265_43 : insAt 265 43 = some (.if_icmp .ne 12, 3, (0, 0, 0, 0), 0) := rfl
theorem s265_43 {c : Nat → List AV → SS → Option Out} {l0 l1 l2 l3 : Option AV} {x y : Int32} {L2 : List (Nat × AV)} {St : List AV} {S : SS} : ev c 265 43 [l0, l1, l2, l3] L2 (aI y :: aI x :: St) S = if x = y then ev c 265 46 [l0, l1, l2, l3] L2 St S else ev c 265 55 [l0, l1, l2, l3] L2 St S := (ev_br i265_43 rfl).trans (ite_not _ _ _)
theorem i265_46 : insAt 265 46 = some (.iload_n 3, 1, (0, 0, 0, 0), 0) := rfl
theorem s265_46 {c : Nat → List AV → SS → Option Out} {l0 l1 l2 : Option AV} {x : Int32} {L2 : List (Nat × AV)} {St : List AV} {S : SS} : ev c 265 46 [l0, l1, l2, some (aI x)] L2 St S = ev c 265 47 [l0, l1, l2, some (aI x)] L2 (aI x :: St) S := ev_go i265_46 rfl
theorem i265_47 : insAt 265 47 = some (.iload_n 1, 1, (0, 0, 0, 0), 0) := rfl
theorem s265_47 {c : Nat → List AV → SS → Option Out} {l0 l2 l3 : Option AV} {x : Int32} {L2 : List (Nat × AV)} {St : List AV} {S : SS} : ev c 265 47 [l0, some (aI x), l2, l3] L2 St S = ev c 265 48 [l0, some (aI x), l2, l3] L2 (aI x :: St) S := ev_go i265_47 rfl
theorem i265_48 : insAt 265 48 = some (.if_icmp .ge 7, 3, (0, 0, 0, 0), 0) := rfl
theorem s265_48 {c : Nat → List AV → SS → Option Out} {l0 l1 l2 l3 : Option AV} {x y : Int32} {L2 : List (Nat × AV)} {St : List AV} {S : SS} : ev c 265 48 [l0, l1, l2, l3] L2 (aI y :: aI x :: St) S = if y ≤ x then ev c 265 55 [l0, l1, l2, l3] L2 St S else ev c 265 51 [l0, l1, l2, l3] L2 St S := ev_br i265_48 rfl
theorem i265_51 : insAt 265 51 = some (.iconst 1, 1, (0, 0, 0, 0), 0) := rfl
theorem s265_51 {c : Nat → List AV → SS → Option Out} {l0 l1 l2 l3 : Option AV} {L2 : List (Nat × AV)} {St : List AV} {S : SS} : ev c 265 51 [l0, l1, l2, l3] L2 St S = ev c 265 52 [l0, l1, l2, l3] L2 (aI 1 :: St) S := ev_go i265_51 rfl
theorem i265_52 : insAt 265 52 = some (.goto 4, 3, (0, 0, 0, 0), 0) := rfl
theorem s265_52 {c : Nat → List AV → SS → Option Out} {l0 l1 l2 l3 : Option AV} {L2 : List (Nat × AV)} {St : List AV} {S : SS} : ev c 265 52 [l0, l1, l2, l3] L2 St S = ev c 265 56 [l0, l1, l2, l3] L2 St S := ev_go i265_52 rfl
theorem i265_55 : insAt 265 55 = some (.iconst 0, 1, (0, 0, 0, 0), 0) := rfl
theorem s265_55 {c : Nat → List AV → SS → Option Out} {l0 l1 l2 l3 : Option AV} {L2 : List (Nat × AV)} {St : List AV} {S : SS} : ev c 265 55 [l0, l1, l2, l3] L2 St S = ev c 265 56 [l0, l1, l2, l3] L2 (aI 0 :: St) S := ev_go i265_55 rfl
theorem i265_56 : insAt 265 56 = some (.iadd, 1, (0, 0, 0, 0), 0) := rfl
theorem s265_56 {c : Nat → List AV → SS → Option Out} {l0 l1 l2 l3 : Option AV} {x y : Int32} {L2 : List (Nat × AV)} {St : List AV} {S : SS} : ev c 265 56 [l0, l1, l2, l3] L2 (aI y :: aI x :: St) S = ev c 265 57 [l0, l1, l2, l3] L2 (aI (x + y) :: St) S := ev_go i265_56 rfl
theorem i265_57 : insAt 265 57 = some (.istore_n 2, 1, (0, 0, 0, 0), 0) := rfl
theorem s265_57 {c : Nat → List AV → SS → Option Out} {l0 l1 l2 l3 : Option AV} {x : Int32} {L2 : List (Nat × AV)} {St : List AV} {S : SS} : ev c 265 57 [l0, l1, l2, l3] L2 (aI x :: St) S = ev c 265 58 [l0, l1, some (aI x), l3] (kil L2 2) St S := ev_go i265_57 rfl
theorem i265_58 : insAt 265 58 = some (.iinc 3 1, 3, (0, 0, 0, 0), 0) := rfl
theorem s265_58 {c : Nat → List AV → SS → Option Out} {l0 l1 l2 : Option AV} {x : Int32} {L2 : List (Nat × AV)} {St : List AV} {S : SS} : ev c 265 58 [l0, l1, l2, some (aI x)] L2 St S = ev c 265 61 [l0, l1, l2, some (aI (x + 1))] (kil L2 3) St S := ev_go i265_58 rfl
theorem i265_61 : insAt 265 61 = some (.goto (-57), 3, (0, 0, 0, 0), 0) := rfl
theorem s265_61 {c : Nat → List AV → SS → Option Out} {l0 l1 l2 l3 : Option AV} {L2 : List (Nat × AV)} {St : List AV} {S : SS} : ev c 265 61 [l0, l1, l2, l3] L2 St S = ev c 265 4 [l0, l1, l2, l3] L2 St S := ev_go i265_61 rfl
theorem i265_64 : insAt 265 64 = some (.iload_n 2, 1, (0, 0, 0, 0), 0) := rfl
theorem s265_64 {c : Nat → List AV → SS → Option Out} {l0 l1 l3 : Option AV} {x : Int32} {L2 : List (Nat × AV)} {St : List AV} {S : SS} : ev c 265 64 [l0, l1, some (aI x), l3] L2 St S = ev c 265 65 [l0, l1, some (aI x), l3] L2 (aI x :: St) S := ev_go i265_64 rfl
theorem i265_65 : insAt 265 65 = some (.ireturn, 1, (0, 0, 0, 0), 0) := rfl
theorem s265_65 {c : Nat → List AV → SS → Option Out} {l0 l1 l2 l3 : Option AV} {x : Int32} {L2 : List (Nat × AV)} {S : SS} : ev c 265 65 [l0, l1, l2, l3] L2 [aI x] S = some (.inl (some (aI x)), S) := ev_end i265_65 rfl
theorem m265 {d : Nat} {o : OId} {a0 : Int32} {S : SS} : evm (d + 1) 265 [aR o, aI a0] S = ev (evm d) 265 0 [some (aR o), some (aI a0), none, none] [] [] S := evm_s (n := 4) rfl (Nat.le_of_ble_eq_true rfl) rfl rfl
/-! FrequencyOfficeModel.xOf(I)I -/
theorem i266_0 : insAt 266 0 = some (.aload_n 0, 1, (0, 0, 0, 0), 0) := rfl
theorem s266_0 {c : Nat → List AV → SS → Option Out} {l1 : Option AV} {o : OId} {L2 : List (Nat × AV)} {St : List AV} {S : SS} : ev c 266 0 [some (aR o), l1] L2 St S = ev c 266 1 [some (aR o), l1] L2 (aR o :: St) S := ev_go i266_0 rfl
theorem i266_1 : insAt 266 1 = some (.iload_n 1, 1, (0, 0, 0, 0), 0) := rfl
theorem s266_1 {c : Nat → List AV → SS → Option Out} {l0 : Option AV} {x : Int32} {L2 : List (Nat × AV)} {St : List AV} {S : SS} : ev c 266 1 [l0, some (aI x)] L2 St S = ev c 266 2 [l0, some (aI x)] L2 (aI x :: St) S := ev_go i266_1 rfl
theorem i266_2 : insAt 266 2 = some (.iconst 1, 1, (0, 0, 0, 0), 0) := rfl
theorem s266_2 {c : Nat → List AV → SS → Option Out} {l0 l1 : Option AV} {L2 : List (Nat × AV)} {St : List AV} {S : SS} : ev c 266 2 [l0, l1] L2 St S = ev c 266 3 [l0, l1] L2 (aI 1 :: St) S := ev_go i266_2 rfl
theorem i266_3 : insAt 266 3 = some (.invokevirtual 186, 3, (267, 2, 2, 12), 418) := rfl
theorem s266_3 {c : Nat → List AV → SS → Option Out} {l0 l1 : Option AV} {a0 : Int32} {a1 : Int32} {j t : Nat} {L2 : List (Nat × AV)} {S : SS} : ev c 266 3 [l0, l1] L2 [aI a1, aI a0, aR (12, j, t)] S = ck (c 267 [aR (12, j, t), aI a0, aI a1] S) (fun v S' => ev c 266 6 [l0, l1] L2 (v.toList ++ []) S') := ev_call i266_3 rfl
theorem i266_6 : insAt 266 6 = some (.ireturn, 1, (0, 0, 0, 0), 0) := rfl
theorem s266_6 {c : Nat → List AV → SS → Option Out} {l0 l1 : Option AV} {x : Int32} {L2 : List (Nat × AV)} {S : SS} : ev c 266 6 [l0, l1] L2 [aI x] S = some (.inl (some (aI x)), S) := ev_end i266_6 rfl
theorem m266 {d : Nat} {o : OId} {a0 : Int32} {S : SS} : evm (d + 1) 266 [aR o, aI a0] S = ev (evm d) 266 0 [some (aR o), some (aI a0)] [] [] S := evm_s (n := 2) rfl (Nat.le_of_ble_eq_true rfl) rfl rfl
/-! FrequencyOfficeModel.asked(II)I -/
theorem i267_0 : insAt 267 0 = some (.aload_n 0, 1, (0, 0, 0, 0), 0) := rfl
theorem s267_0 {c : Nat → List AV → SS → Option Out} {l1 l2 : Option AV} {o : OId} {L2 : List (Nat × AV)} {St : List AV} {S : SS} : ev c 267 0 [some (aR o), l1, l2] L2 St S = ev c 267 1 [some (aR o), l1, l2] L2 (aR o :: St) S := ev_go i267_0 rfl
theorem i267_1 : insAt 267 1 = some (.aload_n 0, 1, (0, 0, 0, 0), 0) := rfl
theorem s267_1 {c : Nat → List AV → SS → Option Out} {l1 l2 : Option AV} {o : OId} {L2 : List (Nat × AV)} {St : List AV} {S : SS} : ev c 267 1 [some (aR o), l1, l2] L2 St S = ev c 267 2 [some (aR o), l1, l2] L2 (aR o :: St) S := ev_go i267_1 rfl
theorem i267_2 : insAt 267 2 = some (.iload_n 1, 1, (0, 0, 0, 0), 0) := rfl
theorem s267_2 {c : Nat → List AV → SS → Option Out} {l0 l2 : Option AV} {x : Int32} {L2 : List (Nat × AV)} {St : List AV} {S : SS} : ev c 267 2 [l0, some (aI x), l2] L2 St S = ev c 267 3 [l0, some (aI x), l2] L2 (aI x :: St) S := ev_go i267_2 rfl
theorem i267_3 : insAt 267 3 = some (.invokevirtual 173, 3, (253, 1, 2, 12), 414) := rfl
theorem s267_3 {c : Nat → List AV → SS → Option Out} {l0 l1 l2 : Option AV} {t0 : AV} {a0 : Int32} {j t : Nat} {L2 : List (Nat × AV)} {S : SS} : ev c 267 3 [l0, l1, l2] L2 [aI a0, aR (12, j, t), t0] S = ck (c 253 [aR (12, j, t), aI a0] S) (fun v S' => ev c 267 6 [l0, l1, l2] L2 (v.toList ++ [t0]) S') := ev_call i267_3 rfl
theorem i267_6 : insAt 267 6 = some (.ifCond .lt 7, 3, (0, 0, 0, 0), 0) := rfl
theorem s267_6 {c : Nat → List AV → SS → Option Out} {l0 l1 l2 : Option AV} {x : Int32} {L2 : List (Nat × AV)} {St : List AV} {S : SS} : ev c 267 6 [l0, l1, l2] L2 (aI x :: St) S = if x < 0 then ev c 267 13 [l0, l1, l2] L2 St S else ev c 267 9 [l0, l1, l2] L2 St S := ev_br i267_6 rfl
theorem i267_9 : insAt 267 9 = some (.iconst 1, 1, (0, 0, 0, 0), 0) := rfl
theorem s267_9 {c : Nat → List AV → SS → Option Out} {l0 l1 l2 : Option AV} {L2 : List (Nat × AV)} {St : List AV} {S : SS} : ev c 267 9 [l0, l1, l2] L2 St S = ev c 267 10 [l0, l1, l2] L2 (aI 1 :: St) S := ev_go i267_9 rfl
theorem i267_10 : insAt 267 10 = some (.goto 4, 3, (0, 0, 0, 0), 0) := rfl
theorem s267_10 {c : Nat → List AV → SS → Option Out} {l0 l1 l2 : Option AV} {L2 : List (Nat × AV)} {St : List AV} {S : SS} : ev c 267 10 [l0, l1, l2] L2 St S = ev c 267 14 [l0, l1, l2] L2 St S := ev_go i267_10 rfl
theorem i267_13 : insAt 267 13 = some (.iconst 0, 1, (0, 0, 0, 0), 0) := rfl
theorem s267_13 {c : Nat → List AV → SS → Option Out} {l0 l1 l2 : Option AV} {L2 : List (Nat × AV)} {St : List AV} {S : SS} : ev c 267 13 [l0, l1, l2] L2 St S = ev c 267 14 [l0, l1, l2] L2 (aI 0 :: St) S := ev_go i267_13 rfl
theorem i267_14 : insAt 267 14 = some (.invokevirtual 176, 3, (256, 1, 2, 12), 415) := rfl
theorem s267_14 {c : Nat → List AV → SS → Option Out} {l0 l1 l2 : Option AV} {a0 : Int32} {j t : Nat} {L2 : List (Nat × AV)} {S : SS} : ev c 267 14 [l0, l1, l2] L2 [aI a0, aR (12, j, t)] S = ck (c 256 [aR (12, j, t), aI a0] S) (fun v S' => ev c 267 17 [l0, l1, l2] L2 (v.toList ++ []) S') := ev_call i267_14 rfl
theorem i267_17 : insAt 267 17 = some (.ifCond .le 7, 3, (0, 0, 0, 0), 0) := rfl
theorem s267_17 {c : Nat → List AV → SS → Option Out} {l0 l1 l2 : Option AV} {x : Int32} {L2 : List (Nat × AV)} {St : List AV} {S : SS} : ev c 267 17 [l0, l1, l2] L2 (aI x :: St) S = if x ≤ 0 then ev c 267 24 [l0, l1, l2] L2 St S else ev c 267 20 [l0, l1, l2] L2 St S := ev_br i267_17 rfl
theorem i267_20 : insAt 267 20 = some (.iconst 0, 1, (0, 0, 0, 0), 0) := rfl
theorem s267_20 {c : Nat → List AV → SS → Option Out} {l0 l1 l2 : Option AV} {L2 : List (Nat × AV)} {St : List AV} {S : SS} : ev c 267 20 [l0, l1, l2] L2 St S = ev c 267 21 [l0, l1, l2] L2 (aI 0 :: St) S := ev_go i267_20 rfl
theorem i267_21 : insAt 267 21 = some (.goto 13, 3, (0, 0, 0, 0), 0) := rfl
theorem s267_21 {c : Nat → List AV → SS → Option Out} {l0 l1 l2 : Option AV} {L2 : List (Nat × AV)} {St : List AV} {S : SS} : ev c 267 21 [l0, l1, l2] L2 St S = ev c 267 34 [l0, l1, l2] L2 St S := ev_go i267_21 rfl
theorem i267_24 : insAt 267 24 = some (.aload_n 0, 1, (0, 0, 0, 0), 0) := rfl
theorem s267_24 {c : Nat → List AV → SS → Option Out} {l1 l2 : Option AV} {o : OId} {L2 : List (Nat × AV)} {St : List AV} {S : SS} : ev c 267 24 [some (aR o), l1, l2] L2 St S = ev c 267 25 [some (aR o), l1, l2] L2 (aR o :: St) S := ev_go i267_24 rfl
theorem i267_25 : insAt 267 25 = some (.aload_n 0, 1, (0, 0, 0, 0), 0) := rfl
theorem s267_25 {c : Nat → List AV → SS → Option Out} {l1 l2 : Option AV} {o : OId} {L2 : List (Nat × AV)} {St : List AV} {S : SS} : ev c 267 25 [some (aR o), l1, l2] L2 St S = ev c 267 26 [some (aR o), l1, l2] L2 (aR o :: St) S := ev_go i267_25 rfl
theorem i267_26 : insAt 267 26 = some (.iload_n 1, 1, (0, 0, 0, 0), 0) := rfl
theorem s267_26 {c : Nat → List AV → SS → Option Out} {l0 l2 : Option AV} {x : Int32} {L2 : List (Nat × AV)} {St : List AV} {S : SS} : ev c 267 26 [l0, some (aI x), l2] L2 St S = ev c 267 27 [l0, some (aI x), l2] L2 (aI x :: St) S := ev_go i267_26 rfl
theorem i267_27 : insAt 267 27 = some (.invokevirtual 173, 3, (253, 1, 2, 12), 414) := rfl
theorem s267_27 {c : Nat → List AV → SS → Option Out} {l0 l1 l2 : Option AV} {t0 : AV} {a0 : Int32} {j t : Nat} {L2 : List (Nat × AV)} {S : SS} : ev c 267 27 [l0, l1, l2] L2 [aI a0, aR (12, j, t), t0] S = ck (c 253 [aR (12, j, t), aI a0] S) (fun v S' => ev c 267 30 [l0, l1, l2] L2 (v.toList ++ [t0]) S') := ev_call i267_27 rfl
theorem i267_30 : insAt 267 30 = some (.iload_n 2, 1, (0, 0, 0, 0), 0) := rfl
theorem s267_30 {c : Nat → List AV → SS → Option Out} {l0 l1 : Option AV} {x : Int32} {L2 : List (Nat × AV)} {St : List AV} {S : SS} : ev c 267 30 [l0, l1, some (aI x)] L2 St S = ev c 267 31 [l0, l1, some (aI x)] L2 (aI x :: St) S := ev_go i267_30 rfl
theorem i267_31 : insAt 267 31 = some (.invokevirtual 75, 3, (231, 2, 2, 12), 396) := rfl
theorem s267_31 {c : Nat → List AV → SS → Option Out} {l0 l1 l2 : Option AV} {a0 : Int32} {a1 : Int32} {j t : Nat} {L2 : List (Nat × AV)} {S : SS} : ev c 267 31 [l0, l1, l2] L2 [aI a1, aI a0, aR (12, j, t)] S = ck (c 231 [aR (12, j, t), aI a0, aI a1] S) (fun v S' => ev c 267 34 [l0, l1, l2] L2 (v.toList ++ []) S') := ev_call i267_31 rfl
theorem i267_34 : insAt 267 34 = some (.ireturn, 1, (0, 0, 0, 0), 0) := rfl
theorem s267_34 {c : Nat → List AV → SS → Option Out} {l0 l1 l2 : Option AV} {x : Int32} {L2 : List (Nat × AV)} {S : SS} : ev c 267 34 [l0, l1, l2] L2 [aI x] S = some (.inl (some (aI x)), S) := ev_end i267_34 rfl
theorem m267 {d : Nat} {o : OId} {a0 : Int32} {a1 : Int32} {S : SS} : evm (d + 1) 267 [aR o, aI a0, aI a1] S = ev (evm d) 267 0 [some (aR o), some (aI a0), some (aI a1)] [] [] S := evm_s (n := 3) rfl (Nat.le_of_ble_eq_true rfl) rfl rfl
/-! FrequencyOfficeModel.yOf(I)I -/
theorem i268_0 : insAt 268 0 = some (.aload_n 0, 1, (0, 0, 0, 0), 0) := rfl
theorem s268_0 {c : Nat → List AV → SS → Option Out} {l1 : Option AV} {o : OId} {L2 : List (Nat × AV)} {St : List AV} {S : SS} : ev c 268 0 [some (aR o), l1] L2 St S = ev c 268 1 [some (aR o), l1] L2 (aR o :: St) S := ev_go i268_0 rfl
theorem i268_1 : insAt 268 1 = some (.iload_n 1, 1, (0, 0, 0, 0), 0) := rfl
theorem s268_1 {c : Nat → List AV → SS → Option Out} {l0 : Option AV} {x : Int32} {L2 : List (Nat × AV)} {St : List AV} {S : SS} : ev c 268 1 [l0, some (aI x)] L2 St S = ev c 268 2 [l0, some (aI x)] L2 (aI x :: St) S := ev_go i268_1 rfl
theorem i268_2 : insAt 268 2 = some (.iconst 2, 1, (0, 0, 0, 0), 0) := rfl
theorem s268_2 {c : Nat → List AV → SS → Option Out} {l0 l1 : Option AV} {L2 : List (Nat × AV)} {St : List AV} {S : SS} : ev c 268 2 [l0, l1] L2 St S = ev c 268 3 [l0, l1] L2 (aI 2 :: St) S := ev_go i268_2 rfl
theorem i268_3 : insAt 268 3 = some (.invokevirtual 186, 3, (267, 2, 2, 12), 418) := rfl
theorem s268_3 {c : Nat → List AV → SS → Option Out} {l0 l1 : Option AV} {a0 : Int32} {a1 : Int32} {j t : Nat} {L2 : List (Nat × AV)} {S : SS} : ev c 268 3 [l0, l1] L2 [aI a1, aI a0, aR (12, j, t)] S = ck (c 267 [aR (12, j, t), aI a0, aI a1] S) (fun v S' => ev c 268 6 [l0, l1] L2 (v.toList ++ []) S') := ev_call i268_3 rfl
theorem i268_6 : insAt 268 6 = some (.ireturn, 1, (0, 0, 0, 0), 0) := rfl
theorem s268_6 {c : Nat → List AV → SS → Option Out} {l0 l1 : Option AV} {x : Int32} {L2 : List (Nat × AV)} {S : SS} : ev c 268 6 [l0, l1] L2 [aI x] S = some (.inl (some (aI x)), S) := ev_end i268_6 rfl
theorem m268 {d : Nat} {o : OId} {a0 : Int32} {S : SS} : evm (d + 1) 268 [aR o, aI a0] S = ev (evm d) 268 0 [some (aR o), some (aI a0)] [] [] S := evm_s (n := 2) rfl (Nat.le_of_ble_eq_true rfl) rfl rfl
/-! FrequencyOfficeModel.channelOf(I)I -/
theorem i269_0 : insAt 269 0 = some (.aload_n 0, 1, (0, 0, 0, 0), 0) := rfl
theorem s269_0 {c : Nat → List AV → SS → Option Out} {l1 : Option AV} {o : OId} {L2 : List (Nat × AV)} {St : List AV} {S : SS} : ev c 269 0 [some (aR o), l1] L2 St S = ev c 269 1 [some (aR o), l1] L2 (aR o :: St) S := ev_go i269_0 rfl
theorem i269_1 : insAt 269 1 = some (.iload_n 1, 1, (0, 0, 0, 0), 0) := rfl
theorem s269_1 {c : Nat → List AV → SS → Option Out} {l0 : Option AV} {x : Int32} {L2 : List (Nat × AV)} {St : List AV} {S : SS} : ev c 269 1 [l0, some (aI x)] L2 St S = ev c 269 2 [l0, some (aI x)] L2 (aI x :: St) S := ev_go i269_1 rfl
theorem i269_2 : insAt 269 2 = some (.iconst 3, 1, (0, 0, 0, 0), 0) := rfl
theorem s269_2 {c : Nat → List AV → SS → Option Out} {l0 l1 : Option AV} {L2 : List (Nat × AV)} {St : List AV} {S : SS} : ev c 269 2 [l0, l1] L2 St S = ev c 269 3 [l0, l1] L2 (aI 3 :: St) S := ev_go i269_2 rfl
theorem i269_3 : insAt 269 3 = some (.invokevirtual 186, 3, (267, 2, 2, 12), 418) := rfl
theorem s269_3 {c : Nat → List AV → SS → Option Out} {l0 l1 : Option AV} {a0 : Int32} {a1 : Int32} {j t : Nat} {L2 : List (Nat × AV)} {S : SS} : ev c 269 3 [l0, l1] L2 [aI a1, aI a0, aR (12, j, t)] S = ck (c 267 [aR (12, j, t), aI a0, aI a1] S) (fun v S' => ev c 269 6 [l0, l1] L2 (v.toList ++ []) S') := ev_call i269_3 rfl
theorem i269_6 : insAt 269 6 = some (.ireturn, 1, (0, 0, 0, 0), 0) := rfl
theorem s269_6 {c : Nat → List AV → SS → Option Out} {l0 l1 : Option AV} {x : Int32} {L2 : List (Nat × AV)} {S : SS} : ev c 269 6 [l0, l1] L2 [aI x] S = some (.inl (some (aI x)), S) := ev_end i269_6 rfl
theorem m269 {d : Nat} {o : OId} {a0 : Int32} {S : SS} : evm (d + 1) 269 [aR o, aI a0] S = ev (evm d) 269 0 [some (aR o), some (aI a0)] [] [] S := evm_s (n := 2) rfl (Nat.le_of_ble_eq_true rfl) rfl rfl
/-! FrequencyOfficeModel.expiryOf(I)I -/
theorem i270_0 : insAt 270 0 = some (.aload_n 0, 1, (0, 0, 0, 0), 0) := rfl
theorem s270_0 {c : Nat → List AV → SS → Option Out} {l1 : Option AV} {o : OId} {L2 : List (Nat × AV)} {St : List AV} {S : SS} : ev c 270 0 [some (aR o), l1] L2 St S = ev c 270 1 [some (aR o), l1] L2 (aR o :: St) S := ev_go i270_0 rfl
theorem i270_1 : insAt 270 1 = some (.iload_n 1, 1, (0, 0, 0, 0), 0) := rfl
theorem s270_1 {c : Nat → List AV → SS → Option Out} {l0 : Option AV} {x : Int32} {L2 : List (Nat × AV)} {St : List AV} {S : SS} : ev c 270 1 [l0, some (aI x)] L2 St S = ev c 270 2 [l0, some (aI x)] L2 (aI x :: St) S := ev_go i270_1 rfl
theorem i270_2 : insAt 270 2 = some (.iconst 4, 1, (0, 0, 0, 0), 0) := rfl
theorem s270_2 {c : Nat → List AV → SS → Option Out} {l0 l1 : Option AV} {L2 : List (Nat × AV)} {St : List AV} {S : SS} : ev c 270 2 [l0, l1] L2 St S = ev c 270 3 [l0, l1] L2 (aI 4 :: St) S := ev_go i270_2 rfl
theorem i270_3 : insAt 270 3 = some (.invokevirtual 186, 3, (267, 2, 2, 12), 418) := rfl
theorem s270_3 {c : Nat → List AV → SS → Option Out} {l0 l1 : Option AV} {a0 : Int32} {a1 : Int32} {j t : Nat} {L2 : List (Nat × AV)} {S : SS} : ev c 270 3 [l0, l1] L2 [aI a1, aI a0, aR (12, j, t)] S = ck (c 267 [aR (12, j, t), aI a0, aI a1] S) (fun v S' => ev c 270 6 [l0, l1] L2 (v.toList ++ []) S') := ev_call i270_3 rfl
theorem i270_6 : insAt 270 6 = some (.ireturn, 1, (0, 0, 0, 0), 0) := rfl
theorem s270_6 {c : Nat → List AV → SS → Option Out} {l0 l1 : Option AV} {x : Int32} {L2 : List (Nat × AV)} {S : SS} : ev c 270 6 [l0, l1] L2 [aI x] S = some (.inl (some (aI x)), S) := ev_end i270_6 rfl
theorem m270 {d : Nat} {o : OId} {a0 : Int32} {S : SS} : evm (d + 1) 270 [aR o, aI a0] S = ev (evm d) 270 0 [some (aR o), some (aI a0)] [] [] S := evm_s (n := 2) rfl (Nat.le_of_ble_eq_true rfl) rfl rfl
/-! FrequencyOfficeModel.isOnTrial(I)Z -/
theorem i271_0 : insAt 271 0 = some (.aload_n 0, 1, (0, 0, 0, 0), 0) := rfl
theorem s271_0 {c : Nat → List AV → SS → Option Out} {l1 : Option AV} {o : OId} {L2 : List (Nat × AV)} {St : List AV} {S : SS} : ev c 271 0 [some (aR o), l1] L2 St S = ev c 271 1 [some (aR o), l1] L2 (aR o :: St) S := ev_go i271_0 rfl
theorem i271_1 : insAt 271 1 = some (.aload_n 0, 1, (0, 0, 0, 0), 0) := rfl
theorem s271_1 {c : Nat → List AV → SS → Option Out} {l1 : Option AV} {o : OId} {L2 : List (Nat × AV)} {St : List AV} {S : SS} : ev c 271 1 [some (aR o), l1] L2 St S = ev c 271 2 [some (aR o), l1] L2 (aR o :: St) S := ev_go i271_1 rfl
theorem i271_2 : insAt 271 2 = some (.iload_n 1, 1, (0, 0, 0, 0), 0) := rfl
theorem s271_2 {c : Nat → List AV → SS → Option Out} {l0 : Option AV} {x : Int32} {L2 : List (Nat × AV)} {St : List AV} {S : SS} : ev c 271 2 [l0, some (aI x)] L2 St S = ev c 271 3 [l0, some (aI x)] L2 (aI x :: St) S := ev_go i271_2 rfl
theorem i271_3 : insAt 271 3 = some (.invokevirtual 173, 3, (253, 1, 2, 12), 414) := rfl
theorem s271_3 {c : Nat → List AV → SS → Option Out} {l0 l1 : Option AV} {t0 : AV} {a0 : Int32} {j t : Nat} {L2 : List (Nat × AV)} {S : SS} : ev c 271 3 [l0, l1] L2 [aI a0, aR (12, j, t), t0] S = ck (c 253 [aR (12, j, t), aI a0] S) (fun v S' => ev c 271 6 [l0, l1] L2 (v.toList ++ [t0]) S') := ev_call i271_3 rfl
theorem i271_6 : insAt 271 6 = some (.ifCond .lt 7, 3, (0, 0, 0, 0), 0) := rfl
theorem s271_6 {c : Nat → List AV → SS → Option Out} {l0 l1 : Option AV} {x : Int32} {L2 : List (Nat × AV)} {St : List AV} {S : SS} : ev c 271 6 [l0, l1] L2 (aI x :: St) S = if x < 0 then ev c 271 13 [l0, l1] L2 St S else ev c 271 9 [l0, l1] L2 St S := ev_br i271_6 rfl
theorem i271_9 : insAt 271 9 = some (.iconst 1, 1, (0, 0, 0, 0), 0) := rfl
theorem s271_9 {c : Nat → List AV → SS → Option Out} {l0 l1 : Option AV} {L2 : List (Nat × AV)} {St : List AV} {S : SS} : ev c 271 9 [l0, l1] L2 St S = ev c 271 10 [l0, l1] L2 (aI 1 :: St) S := ev_go i271_9 rfl
theorem i271_10 : insAt 271 10 = some (.goto 4, 3, (0, 0, 0, 0), 0) := rfl
theorem s271_10 {c : Nat → List AV → SS → Option Out} {l0 l1 : Option AV} {L2 : List (Nat × AV)} {St : List AV} {S : SS} : ev c 271 10 [l0, l1] L2 St S = ev c 271 14 [l0, l1] L2 St S := ev_go i271_10 rfl
theorem i271_13 : insAt 271 13 = some (.iconst 0, 1, (0, 0, 0, 0), 0) := rfl
theorem s271_13 {c : Nat → List AV → SS → Option Out} {l0 l1 : Option AV} {L2 : List (Nat × AV)} {St : List AV} {S : SS} : ev c 271 13 [l0, l1] L2 St S = ev c 271 14 [l0, l1] L2 (aI 0 :: St) S := ev_go i271_13 rfl
theorem i271_14 : insAt 271 14 = some (.invokevirtual 176, 3, (256, 1, 2, 12), 415) := rfl
theorem s271_14 {c : Nat → List AV → SS → Option Out} {l0 l1 : Option AV} {a0 : Int32} {j t : Nat} {L2 : List (Nat × AV)} {S : SS} : ev c 271 14 [l0, l1] L2 [aI a0, aR (12, j, t)] S = ck (c 256 [aR (12, j, t), aI a0] S) (fun v S' => ev c 271 17 [l0, l1] L2 (v.toList ++ []) S') := ev_call i271_14 rfl
theorem i271_17 : insAt 271 17 = some (.ifCond .ne 19, 3, (0, 0, 0, 0), 0) := rfl
theorem s271_17 {c : Nat → List AV → SS → Option Out} {l0 l1 : Option AV} {x : Int32} {L2 : List (Nat × AV)} {St : List AV} {S : SS} : ev c 271 17 [l0, l1] L2 (aI x :: St) S = if x = 0 then ev c 271 20 [l0, l1] L2 St S else ev c 271 36 [l0, l1] L2 St S := (ev_br i271_17 rfl).trans (ite_not _ _ _)
theorem i271_20 : insAt 271 20 = some (.aload_n 0, 1, (0, 0, 0, 0), 0) := rfl
theorem s271_20 {c : Nat → List AV → SS → Option Out} {l1 : Option AV} {o : OId} {L2 : List (Nat × AV)} {St : List AV} {S : SS} : ev c 271 20 [some (aR o), l1] L2 St S = ev c 271 21 [some (aR o), l1] L2 (aR o :: St) S := ev_go i271_20 rfl
theorem i271_21 : insAt 271 21 = some (.aload_n 0, 1, (0, 0, 0, 0), 0) := rfl
theorem s271_21 {c : Nat → List AV → SS → Option Out} {l1 : Option AV} {o : OId} {L2 : List (Nat × AV)} {St : List AV} {S : SS} : ev c 271 21 [some (aR o), l1] L2 St S = ev c 271 22 [some (aR o), l1] L2 (aR o :: St) S := ev_go i271_21 rfl
theorem i271_22 : insAt 271 22 = some (.iload_n 1, 1, (0, 0, 0, 0), 0) := rfl
theorem s271_22 {c : Nat → List AV → SS → Option Out} {l0 : Option AV} {x : Int32} {L2 : List (Nat × AV)} {St : List AV} {S : SS} : ev c 271 22 [l0, some (aI x)] L2 St S = ev c 271 23 [l0, some (aI x)] L2 (aI x :: St) S := ev_go i271_22 rfl
theorem i271_23 : insAt 271 23 = some (.invokevirtual 173, 3, (253, 1, 2, 12), 414) := rfl
theorem s271_23 {c : Nat → List AV → SS → Option Out} {l0 l1 : Option AV} {t0 : AV} {a0 : Int32} {j t : Nat} {L2 : List (Nat × AV)} {S : SS} : ev c 271 23 [l0, l1] L2 [aI a0, aR (12, j, t), t0] S = ck (c 253 [aR (12, j, t), aI a0] S) (fun v S' => ev c 271 26 [l0, l1] L2 (v.toList ++ [t0]) S') := ev_call i271_23 rfl
theorem i271_26 : insAt 271 26 = some (.invokevirtual 115, 3, (230, 1, 2, 12), 400) := rfl
theorem s271_26 {c : Nat → List AV → SS → Option Out} {l0 l1 : Option AV} {a0 : Int32} {j t : Nat} {L2 : List (Nat × AV)} {S : SS} : ev c 271 26 [l0, l1] L2 [aI a0, aR (12, j, t)] S = ck (c 230 [aR (12, j, t), aI a0] S) (fun v S' => ev c 271 29 [l0, l1] L2 (v.toList ++ []) S') := ev_call i271_26 rfl
theorem i271_29 : insAt 271 29 = some (.ifCond .ne 7, 3, (0, 0, 0, 0), 0) := rfl
theorem s271_29 {c : Nat → List AV → SS → Option Out} {l0 l1 : Option AV} {x : Int32} {L2 : List (Nat × AV)} {St : List AV} {S : SS} : ev c 271 29 [l0, l1] L2 (aI x :: St) S = if x = 0 then ev c 271 32 [l0, l1] L2 St S else ev c 271 36 [l0, l1] L2 St S := (ev_br i271_29 rfl).trans (ite_not _ _ _)
theorem i271_32 : insAt 271 32 = some (.iconst 1, 1, (0, 0, 0, 0), 0) := rfl
theorem s271_32 {c : Nat → List AV → SS → Option Out} {l0 l1 : Option AV} {L2 : List (Nat × AV)} {St : List AV} {S : SS} : ev c 271 32 [l0, l1] L2 St S = ev c 271 33 [l0, l1] L2 (aI 1 :: St) S := ev_go i271_32 rfl
theorem i271_33 : insAt 271 33 = some (.goto 4, 3, (0, 0, 0, 0), 0) := rfl
theorem s271_33 {c : Nat → List AV → SS → Option Out} {l0 l1 : Option AV} {L2 : List (Nat × AV)} {St : List AV} {S : SS} : ev c 271 33 [l0, l1] L2 St S = ev c 271 37 [l0, l1] L2 St S := ev_go i271_33 rfl
theorem i271_36 : insAt 271 36 = some (.iconst 0, 1, (0, 0, 0, 0), 0) := rfl
theorem s271_36 {c : Nat → List AV → SS → Option Out} {l0 l1 : Option AV} {L2 : List (Nat × AV)} {St : List AV} {S : SS} : ev c 271 36 [l0, l1] L2 St S = ev c 271 37 [l0, l1] L2 (aI 0 :: St) S := ev_go i271_36 rfl
theorem i271_37 : insAt 271 37 = some (.ireturn, 1, (0, 0, 0, 0), 0) := rfl
theorem s271_37 {c : Nat → List AV → SS → Option Out} {l0 l1 : Option AV} {x : Int32} {L2 : List (Nat × AV)} {S : SS} : ev c 271 37 [l0, l1] L2 [aI x] S = if x = 0 ∨ x = 1 then some (.inl (some (aI x)), S) else none := ev_rt i271_37 rfl
theorem m271 {d : Nat} {o : OId} {a0 : Int32} {S : SS} : evm (d + 1) 271 [aR o, aI a0] S = ev (evm d) 271 0 [some (aR o), some (aI a0)] [] [] S := evm_s (n := 2) rfl (Nat.le_of_ble_eq_true rfl) rfl rfl
/-! FrequencyOfficeModel.expiredTotal()I -/
theorem i272_0 : insAt 272 0 = some (.aload_n 0, 1, (0, 0, 0, 0), 0) := rfl
theorem s272_0 {c : Nat → List AV → SS → Option Out} {o : OId} {L2 : List (Nat × AV)} {St : List AV} {S : SS} : ev c 272 0 [some (aR o)] L2 St S = ev c 272 1 [some (aR o)] L2 (aR o :: St) S := ev_go i272_0 rfl
theorem i272_1 : insAt 272 1 = some (.aload_n 0, 1, (0, 0, 0, 0), 0) := rfl
theorem s272_1 {c : Nat → List AV → SS → Option Out} {o : OId} {L2 : List (Nat × AV)} {St : List AV} {S : SS} : ev c 272 1 [some (aR o)] L2 St S = ev c 272 2 [some (aR o)] L2 (aR o :: St) S := ev_go i272_1 rfl
theorem i272_2 : insAt 272 2 = some (.getfield 7, 3, (12, 0, 0, 0), 364) := rfl
theorem s272_2 {c : Nat → List AV → SS → Option Out} {l0 : Option AV} {j t : Nat} {L2 : List (Nat × AV)} {St : List AV} {S : SS} : ev c 272 2 [l0] L2 (aR (12, j, t) :: St) S = ev c 272 5 [l0] L2 (S.2.2.1 (12, j, t) 0 :: St) S := ev_go i272_2 rfl
theorem i272_5 : insAt 272 5 = some (.iconst 5, 1, (0, 0, 0, 0), 0) := rfl
theorem s272_5 {c : Nat → List AV → SS → Option Out} {l0 : Option AV} {L2 : List (Nat × AV)} {St : List AV} {S : SS} : ev c 272 5 [l0] L2 St S = ev c 272 6 [l0] L2 (aI 5 :: St) S := ev_go i272_5 rfl
theorem i272_6 : insAt 272 6 = some (.iaload, 1, (0, 0, 0, 0), 0) := rfl
theorem s272_6 {c : Nat → List AV → SS → Option Out} {l0 : Option AV} {i : Int32} {o : OId} {L2 : List (Nat × AV)} {St : List AV} {S : SS} : ev c 272 6 [l0] L2 (aI i :: aR o :: St) S = kI o i (ev c 272 7 [l0] L2 (aI (agI S o i.toNatClampNeg) :: St) S) := ev_iaload i272_6
theorem i272_7 : insAt 272 7 = some (.invokevirtual 89, 3, (220, 1, 2, 12), 386) := rfl
theorem s272_7 {c : Nat → List AV → SS → Option Out} {l0 : Option AV} {a0 : Int32} {j t : Nat} {L2 : List (Nat × AV)} {S : SS} : ev c 272 7 [l0] L2 [aI a0, aR (12, j, t)] S = ck (c 220 [aR (12, j, t), aI a0] S) (fun v S' => ev c 272 10 [l0] L2 (v.toList ++ []) S') := ev_call i272_7 rfl
theorem i272_10 : insAt 272 10 = some (.ireturn, 1, (0, 0, 0, 0), 0) := rfl
theorem s272_10 {c : Nat → List AV → SS → Option Out} {l0 : Option AV} {x : Int32} {L2 : List (Nat × AV)} {S : SS} : ev c 272 10 [l0] L2 [aI x] S = some (.inl (some (aI x)), S) := ev_end i272_10 rfl
theorem m272 {d : Nat} {o : OId} {S : SS} : evm (d + 1) 272 [aR o] S = ev (evm d) 272 0 [some (aR o)] [] [] S := evm_s (n := 1) rfl (Nat.le_of_ble_eq_true rfl) rfl rfl
/-! FrequencyOfficeModel.endedTrials()I -/
theorem i273_0 : insAt 273 0 = some (.aload_n 0, 1, (0, 0, 0, 0), 0) := rfl
theorem s273_0 {c : Nat → List AV → SS → Option Out} {o : OId} {L2 : List (Nat × AV)} {St : List AV} {S : SS} : ev c 273 0 [some (aR o)] L2 St S = ev c 273 1 [some (aR o)] L2 (aR o :: St) S := ev_go i273_0 rfl
theorem i273_1 : insAt 273 1 = some (.aload_n 0, 1, (0, 0, 0, 0), 0) := rfl
theorem s273_1 {c : Nat → List AV → SS → Option Out} {o : OId} {L2 : List (Nat × AV)} {St : List AV} {S : SS} : ev c 273 1 [some (aR o)] L2 St S = ev c 273 2 [some (aR o)] L2 (aR o :: St) S := ev_go i273_1 rfl
theorem i273_2 : insAt 273 2 = some (.getfield 7, 3, (12, 0, 0, 0), 364) := rfl
theorem s273_2 {c : Nat → List AV → SS → Option Out} {l0 : Option AV} {j t : Nat} {L2 : List (Nat × AV)} {St : List AV} {S : SS} : ev c 273 2 [l0] L2 (aR (12, j, t) :: St) S = ev c 273 5 [l0] L2 (S.2.2.1 (12, j, t) 0 :: St) S := ev_go i273_2 rfl
theorem i273_5 : insAt 273 5 = some (.bipush 6, 2, (0, 0, 0, 0), 0) := rfl
theorem s273_5 {c : Nat → List AV → SS → Option Out} {l0 : Option AV} {L2 : List (Nat × AV)} {St : List AV} {S : SS} : ev c 273 5 [l0] L2 St S = ev c 273 7 [l0] L2 (aI 6 :: St) S := ev_go i273_5 rfl
theorem i273_7 : insAt 273 7 = some (.iaload, 1, (0, 0, 0, 0), 0) := rfl
theorem s273_7 {c : Nat → List AV → SS → Option Out} {l0 : Option AV} {i : Int32} {o : OId} {L2 : List (Nat × AV)} {St : List AV} {S : SS} : ev c 273 7 [l0] L2 (aI i :: aR o :: St) S = kI o i (ev c 273 8 [l0] L2 (aI (agI S o i.toNatClampNeg) :: St) S) := ev_iaload i273_7
theorem i273_8 : insAt 273 8 = some (.invokevirtual 89, 3, (220, 1, 2, 12), 386) := rfl
theorem s273_8 {c : Nat → List AV → SS → Option Out} {l0 : Option AV} {a0 : Int32} {j t : Nat} {L2 : List (Nat × AV)} {S : SS} : ev c 273 8 [l0] L2 [aI a0, aR (12, j, t)] S = ck (c 220 [aR (12, j, t), aI a0] S) (fun v S' => ev c 273 11 [l0] L2 (v.toList ++ []) S') := ev_call i273_8 rfl
theorem i273_11 : insAt 273 11 = some (.ireturn, 1, (0, 0, 0, 0), 0) := rfl
theorem s273_11 {c : Nat → List AV → SS → Option Out} {l0 : Option AV} {x : Int32} {L2 : List (Nat × AV)} {S : SS} : ev c 273 11 [l0] L2 [aI x] S = some (.inl (some (aI x)), S) := ev_end i273_11 rfl
theorem m273 {d : Nat} {o : OId} {S : SS} : evm (d + 1) 273 [aR o] S = ev (evm d) 273 0 [some (aR o)] [] [] S := evm_s (n := 1) rfl (Nat.le_of_ble_eq_true rfl) rfl rfl
/-! FrequencyOfficeModel.squaredDistance(II)I -/
theorem i274_0 : insAt 274 0 = some (.aload_n 0, 1, (0, 0, 0, 0), 0) := rfl
theorem s274_0 {c : Nat → List AV → SS → Option Out} {l1 l2 : Option AV} {o : OId} {L2 : List (Nat × AV)} {St : List AV} {S : SS} : ev c 274 0 [some (aR o), l1, l2] L2 St S = ev c 274 1 [some (aR o), l1, l2] L2 (aR o :: St) S := ev_go i274_0 rfl
theorem i274_1 : insAt 274 1 = some (.iload_n 1, 1, (0, 0, 0, 0), 0) := rfl
theorem s274_1 {c : Nat → List AV → SS → Option Out} {l0 l2 : Option AV} {x : Int32} {L2 : List (Nat × AV)} {St : List AV} {S : SS} : ev c 274 1 [l0, some (aI x), l2] L2 St S = ev c 274 2 [l0, some (aI x), l2] L2 (aI x :: St) S := ev_go i274_1 rfl
theorem i274_2 : insAt 274 2 = some (.iload_n 2, 1, (0, 0, 0, 0), 0) := rfl
theorem s274_2 {c : Nat → List AV → SS → Option Out} {l0 l1 : Option AV} {x : Int32} {L2 : List (Nat × AV)} {St : List AV} {S : SS} : ev c 274 2 [l0, l1, some (aI x)] L2 St S = ev c 274 3 [l0, l1, some (aI x)] L2 (aI x :: St) S := ev_go i274_2 rfl
theorem i274_3 : insAt 274 3 = some (.invokevirtual 189, 3, (275, 2, 2, 12), 419) := rfl
theorem s274_3 {c : Nat → List AV → SS → Option Out} {l0 l1 l2 : Option AV} {a0 : Int32} {a1 : Int32} {j t : Nat} {L2 : List (Nat × AV)} {S : SS} : ev c 274 3 [l0, l1, l2] L2 [aI a1, aI a0, aR (12, j, t)] S = ck (c 275 [aR (12, j, t), aI a0, aI a1] S) (fun v S' => ev c 274 6 [l0, l1, l2] L2 (v.toList ++ []) S') := ev_call i274_3 rfl
theorem i274_6 : insAt 274 6 = some (.ifCond .eq 35, 3, (0, 0, 0, 0), 0) := rfl
theorem s274_6 {c : Nat → List AV → SS → Option Out} {l0 l1 l2 : Option AV} {x : Int32} {L2 : List (Nat × AV)} {St : List AV} {S : SS} : ev c 274 6 [l0, l1, l2] L2 (aI x :: St) S = if x = 0 then ev c 274 41 [l0, l1, l2] L2 St S else ev c 274 9 [l0, l1, l2] L2 St S := ev_br i274_6 rfl
theorem i274_9 : insAt 274 9 = some (.aload_n 0, 1, (0, 0, 0, 0), 0) := rfl
theorem s274_9 {c : Nat → List AV → SS → Option Out} {l1 l2 : Option AV} {o : OId} {L2 : List (Nat × AV)} {St : List AV} {S : SS} : ev c 274 9 [some (aR o), l1, l2] L2 St S = ev c 274 10 [some (aR o), l1, l2] L2 (aR o :: St) S := ev_go i274_9 rfl
theorem i274_10 : insAt 274 10 = some (.aload_n 0, 1, (0, 0, 0, 0), 0) := rfl
theorem s274_10 {c : Nat → List AV → SS → Option Out} {l1 l2 : Option AV} {o : OId} {L2 : List (Nat × AV)} {St : List AV} {S : SS} : ev c 274 10 [some (aR o), l1, l2] L2 St S = ev c 274 11 [some (aR o), l1, l2] L2 (aR o :: St) S := ev_go i274_10 rfl
theorem i274_11 : insAt 274 11 = some (.aload_n 0, 1, (0, 0, 0, 0), 0) := rfl
theorem s274_11 {c : Nat → List AV → SS → Option Out} {l1 l2 : Option AV} {o : OId} {L2 : List (Nat × AV)} {St : List AV} {S : SS} : ev c 274 11 [some (aR o), l1, l2] L2 St S = ev c 274 12 [some (aR o), l1, l2] L2 (aR o :: St) S := ev_go i274_11 rfl
theorem i274_12 : insAt 274 12 = some (.iload_n 1, 1, (0, 0, 0, 0), 0) := rfl
theorem s274_12 {c : Nat → List AV → SS → Option Out} {l0 l2 : Option AV} {x : Int32} {L2 : List (Nat × AV)} {St : List AV} {S : SS} : ev c 274 12 [l0, some (aI x), l2] L2 St S = ev c 274 13 [l0, some (aI x), l2] L2 (aI x :: St) S := ev_go i274_12 rfl
theorem i274_13 : insAt 274 13 = some (.invokevirtual 173, 3, (253, 1, 2, 12), 414) := rfl
theorem s274_13 {c : Nat → List AV → SS → Option Out} {l0 l1 l2 : Option AV} {t0 t1 : AV} {a0 : Int32} {j t : Nat} {L2 : List (Nat × AV)} {S : SS} : ev c 274 13 [l0, l1, l2] L2 [aI a0, aR (12, j, t), t0, t1] S = ck (c 253 [aR (12, j, t), aI a0] S) (fun v S' => ev c 274 16 [l0, l1, l2] L2 (v.toList ++ [t0, t1]) S') := ev_call i274_13 rfl
theorem i274_16 : insAt 274 16 = some (.iconst 1, 1, (0, 0, 0, 0), 0) := rfl
theorem s274_16 {c : Nat → List AV → SS → Option Out} {l0 l1 l2 : Option AV} {L2 : List (Nat × AV)} {St : List AV} {S : SS} : ev c 274 16 [l0, l1, l2] L2 St S = ev c 274 17 [l0, l1, l2] L2 (aI 1 :: St) S := ev_go i274_16 rfl
theorem i274_17 : insAt 274 17 = some (.invokevirtual 75, 3, (231, 2, 2, 12), 396) := rfl
theorem s274_17 {c : Nat → List AV → SS → Option Out} {l0 l1 l2 : Option AV} {t0 : AV} {a0 : Int32} {a1 : Int32} {j t : Nat} {L2 : List (Nat × AV)} {S : SS} : ev c 274 17 [l0, l1, l2] L2 [aI a1, aI a0, aR (12, j, t), t0] S = ck (c 231 [aR (12, j, t), aI a0, aI a1] S) (fun v S' => ev c 274 20 [l0, l1, l2] L2 (v.toList ++ [t0]) S') := ev_call i274_17 rfl
theorem i274_20 : insAt 274 20 = some (.aload_n 0, 1, (0, 0, 0, 0), 0) := rfl
theorem s274_20 {c : Nat → List AV → SS → Option Out} {l1 l2 : Option AV} {o : OId} {L2 : List (Nat × AV)} {St : List AV} {S : SS} : ev c 274 20 [some (aR o), l1, l2] L2 St S = ev c 274 21 [some (aR o), l1, l2] L2 (aR o :: St) S := ev_go i274_20 rfl
theorem i274_21 : insAt 274 21 = some (.aload_n 0, 1, (0, 0, 0, 0), 0) := rfl
theorem s274_21 {c : Nat → List AV → SS → Option Out} {l1 l2 : Option AV} {o : OId} {L2 : List (Nat × AV)} {St : List AV} {S : SS} : ev c 274 21 [some (aR o), l1, l2] L2 St S = ev c 274 22 [some (aR o), l1, l2] L2 (aR o :: St) S := ev_go i274_21 rfl
theorem i274_22 : insAt 274 22 = some (.iload_n 1, 1, (0, 0, 0, 0), 0) := rfl
theorem s274_22 {c : Nat → List AV → SS → Option Out} {l0 l2 : Option AV} {x : Int32} {L2 : List (Nat × AV)} {St : List AV} {S : SS} : ev c 274 22 [l0, some (aI x), l2] L2 St S = ev c 274 23 [l0, some (aI x), l2] L2 (aI x :: St) S := ev_go i274_22 rfl
theorem i274_23 : insAt 274 23 = some (.invokevirtual 173, 3, (253, 1, 2, 12), 414) := rfl
theorem s274_23 {c : Nat → List AV → SS → Option Out} {l0 l1 l2 : Option AV} {t0 t1 t2 : AV} {a0 : Int32} {j t : Nat} {L2 : List (Nat × AV)} {S : SS} : ev c 274 23 [l0, l1, l2] L2 [aI a0, aR (12, j, t), t0, t1, t2] S = ck (c 253 [aR (12, j, t), aI a0] S) (fun v S' => ev c 274 26 [l0, l1, l2] L2 (v.toList ++ [t0, t1, t2]) S') := ev_call i274_23 rfl
theorem i274_26 : insAt 274 26 = some (.iconst 2, 1, (0, 0, 0, 0), 0) := rfl
theorem s274_26 {c : Nat → List AV → SS → Option Out} {l0 l1 l2 : Option AV} {L2 : List (Nat × AV)} {St : List AV} {S : SS} : ev c 274 26 [l0, l1, l2] L2 St S = ev c 274 27 [l0, l1, l2] L2 (aI 2 :: St) S := ev_go i274_26 rfl
theorem i274_27 : insAt 274 27 = some (.invokevirtual 75, 3, (231, 2, 2, 12), 396) := rfl
theorem s274_27 {c : Nat → List AV → SS → Option Out} {l0 l1 l2 : Option AV} {t0 t1 : AV} {a0 : Int32} {a1 : Int32} {j t : Nat} {L2 : List (Nat × AV)} {S : SS} : ev c 274 27 [l0, l1, l2] L2 [aI a1, aI a0, aR (12, j, t), t0, t1] S = ck (c 231 [aR (12, j, t), aI a0, aI a1] S) (fun v S' => ev c 274 30 [l0, l1, l2] L2 (v.toList ++ [t0, t1]) S') := ev_call i274_27 rfl
theorem i274_30 : insAt 274 30 = some (.aload_n 0, 1, (0, 0, 0, 0), 0) := rfl
theorem s274_30 {c : Nat → List AV → SS → Option Out} {l1 l2 : Option AV} {o : OId} {L2 : List (Nat × AV)} {St : List AV} {S : SS} : ev c 274 30 [some (aR o), l1, l2] L2 St S = ev c 274 31 [some (aR o), l1, l2] L2 (aR o :: St) S := ev_go i274_30 rfl
theorem i274_31 : insAt 274 31 = some (.iload_n 2, 1, (0, 0, 0, 0), 0) := rfl
theorem s274_31 {c : Nat → List AV → SS → Option Out} {l0 l1 : Option AV} {x : Int32} {L2 : List (Nat × AV)} {St : List AV} {S : SS} : ev c 274 31 [l0, l1, some (aI x)] L2 St S = ev c 274 32 [l0, l1, some (aI x)] L2 (aI x :: St) S := ev_go i274_31 rfl
theorem i274_32 : insAt 274 32 = some (.invokevirtual 173, 3, (253, 1, 2, 12), 414) := rfl
theorem s274_32 {c : Nat → List AV → SS → Option Out} {l0 l1 l2 : Option AV} {t0 t1 t2 : AV} {a0 : Int32} {j t : Nat} {L2 : List (Nat × AV)} {S : SS} : ev c 274 32 [l0, l1, l2] L2 [aI a0, aR (12, j, t), t0, t1, t2] S = ck (c 253 [aR (12, j, t), aI a0] S) (fun v S' => ev c 274 35 [l0, l1, l2] L2 (v.toList ++ [t0, t1, t2]) S') := ev_call i274_32 rfl
theorem i274_35 : insAt 274 35 = some (.invokevirtual 96, 3, (235, 3, 2, 12), 405) := rfl
theorem s274_35 {c : Nat → List AV → SS → Option Out} {l0 l1 l2 : Option AV} {a0 : Int32} {a1 : Int32} {a2 : Int32} {j t : Nat} {L2 : List (Nat × AV)} {S : SS} : ev c 274 35 [l0, l1, l2] L2 [aI a2, aI a1, aI a0, aR (12, j, t)] S = ck (c 235 [aR (12, j, t), aI a0, aI a1, aI a2] S) (fun v S' => ev c 274 38 [l0, l1, l2] L2 (v.toList ++ []) S') := ev_call i274_35 rfl
theorem i274_38 : insAt 274 38 = some (.goto 4, 3, (0, 0, 0, 0), 0) := rfl
theorem s274_38 {c : Nat → List AV → SS → Option Out} {l0 l1 l2 : Option AV} {L2 : List (Nat × AV)} {St : List AV} {S : SS} : ev c 274 38 [l0, l1, l2] L2 St S = ev c 274 42 [l0, l1, l2] L2 St S := ev_go i274_38 rfl
theorem i274_41 : insAt 274 41 = some (.iconst 0, 1, (0, 0, 0, 0), 0) := rfl
theorem s274_41 {c : Nat → List AV → SS → Option Out} {l0 l1 l2 : Option AV} {L2 : List (Nat × AV)} {St : List AV} {S : SS} : ev c 274 41 [l0, l1, l2] L2 St S = ev c 274 42 [l0, l1, l2] L2 (aI 0 :: St) S := ev_go i274_41 rfl
theorem i274_42 : insAt 274 42 = some (.ireturn, 1, (0, 0, 0, 0), 0) := rfl
theorem s274_42 {c : Nat → List AV → SS → Option Out} {l0 l1 l2 : Option AV} {x : Int32} {L2 : List (Nat × AV)} {S : SS} : ev c 274 42 [l0, l1, l2] L2 [aI x] S = some (.inl (some (aI x)), S) := ev_end i274_42 rfl
theorem m274 {d : Nat} {o : OId} {a0 : Int32} {a1 : Int32} {S : SS} : evm (d + 1) 274 [aR o, aI a0, aI a1] S = ev (evm d) 274 0 [some (aR o), some (aI a0), some (aI a1)] [] [] S := evm_s (n := 3) rfl (Nat.le_of_ble_eq_true rfl) rfl rfl
/-! FrequencyOfficeModel.isPair(II)Z -/
theorem i275_0 : insAt 275 0 = some (.aload_n 0, 1, (0, 0, 0, 0), 0) := rfl
theorem s275_0 {c : Nat → List AV → SS → Option Out} {l1 l2 : Option AV} {o : OId} {L2 : List (Nat × AV)} {St : List AV} {S : SS} : ev c 275 0 [some (aR o), l1, l2] L2 St S = ev c 275 1 [some (aR o), l1, l2] L2 (aR o :: St) S := ev_go i275_0 rfl
theorem i275_1 : insAt 275 1 = some (.aload_n 0, 1, (0, 0, 0, 0), 0) := rfl
theorem s275_1 {c : Nat → List AV → SS → Option Out} {l1 l2 : Option AV} {o : OId} {L2 : List (Nat × AV)} {St : List AV} {S : SS} : ev c 275 1 [some (aR o), l1, l2] L2 St S = ev c 275 2 [some (aR o), l1, l2] L2 (aR o :: St) S := ev_go i275_1 rfl
theorem i275_2 : insAt 275 2 = some (.iload_n 1, 1, (0, 0, 0, 0), 0) := rfl
theorem s275_2 {c : Nat → List AV → SS → Option Out} {l0 l2 : Option AV} {x : Int32} {L2 : List (Nat × AV)} {St : List AV} {S : SS} : ev c 275 2 [l0, some (aI x), l2] L2 St S = ev c 275 3 [l0, some (aI x), l2] L2 (aI x :: St) S := ev_go i275_2 rfl
theorem i275_3 : insAt 275 3 = some (.invokevirtual 173, 3, (253, 1, 2, 12), 414) := rfl
theorem s275_3 {c : Nat → List AV → SS → Option Out} {l0 l1 l2 : Option AV} {t0 : AV} {a0 : Int32} {j t : Nat} {L2 : List (Nat × AV)} {S : SS} : ev c 275 3 [l0, l1, l2] L2 [aI a0, aR (12, j, t), t0] S = ck (c 253 [aR (12, j, t), aI a0] S) (fun v S' => ev c 275 6 [l0, l1, l2] L2 (v.toList ++ [t0]) S') := ev_call i275_3 rfl
theorem i275_6 : insAt 275 6 = some (.ifCond .lt 11, 3, (0, 0, 0, 0), 0) := rfl
theorem s275_6 {c : Nat → List AV → SS → Option Out} {l0 l1 l2 : Option AV} {x : Int32} {L2 : List (Nat × AV)} {St : List AV} {S : SS} : ev c 275 6 [l0, l1, l2] L2 (aI x :: St) S = if x < 0 then ev c 275 17 [l0, l1, l2] L2 St S else ev c 275 9 [l0, l1, l2] L2 St S := ev_br i275_6 rfl
theorem i275_9 : insAt 275 9 = some (.aload_n 0, 1, (0, 0, 0, 0), 0) := rfl
theorem s275_9 {c : Nat → List AV → SS → Option Out} {l1 l2 : Option AV} {o : OId} {L2 : List (Nat × AV)} {St : List AV} {S : SS} : ev c 275 9 [some (aR o), l1, l2] L2 St S = ev c 275 10 [some (aR o), l1, l2] L2 (aR o :: St) S := ev_go i275_9 rfl
theorem i275_10 : insAt 275 10 = some (.iload_n 2, 1, (0, 0, 0, 0), 0) := rfl
theorem s275_10 {c : Nat → List AV → SS → Option Out} {l0 l1 : Option AV} {x : Int32} {L2 : List (Nat × AV)} {St : List AV} {S : SS} : ev c 275 10 [l0, l1, some (aI x)] L2 St S = ev c 275 11 [l0, l1, some (aI x)] L2 (aI x :: St) S := ev_go i275_10 rfl
theorem i275_11 : insAt 275 11 = some (.invokevirtual 173, 3, (253, 1, 2, 12), 414) := rfl
theorem s275_11 {c : Nat → List AV → SS → Option Out} {l0 l1 l2 : Option AV} {t0 : AV} {a0 : Int32} {j t : Nat} {L2 : List (Nat × AV)} {S : SS} : ev c 275 11 [l0, l1, l2] L2 [aI a0, aR (12, j, t), t0] S = ck (c 253 [aR (12, j, t), aI a0] S) (fun v S' => ev c 275 14 [l0, l1, l2] L2 (v.toList ++ [t0]) S') := ev_call i275_11 rfl
theorem i275_14 : insAt 275 14 = some (.ifCond .ge 7, 3, (0, 0, 0, 0), 0) := rfl
theorem s275_14 {c : Nat → List AV → SS → Option Out} {l0 l1 l2 : Option AV} {x : Int32} {L2 : List (Nat × AV)} {St : List AV} {S : SS} : ev c 275 14 [l0, l1, l2] L2 (aI x :: St) S = if 0 ≤ x then ev c 275 21 [l0, l1, l2] L2 St S else ev c 275 17 [l0, l1, l2] L2 St S := ev_br i275_14 rfl
theorem i275_17 : insAt 275 17 = some (.iconst 1, 1, (0, 0, 0, 0), 0) := rfl
theorem s275_17 {c : Nat → List AV → SS → Option Out} {l0 l1 l2 : Option AV} {L2 : List (Nat × AV)} {St : List AV} {S : SS} : ev c 275 17 [l0, l1, l2] L2 St S = ev c 275 18 [l0, l1, l2] L2 (aI 1 :: St) S := ev_go i275_17 rfl
theorem i275_18 : insAt 275 18 = some (.goto 13, 3, (0, 0, 0, 0), 0) := rfl
theorem s275_18 {c : Nat → List AV → SS → Option Out} {l0 l1 l2 : Option AV} {L2 : List (Nat × AV)} {St : List AV} {S : SS} : ev c 275 18 [l0, l1, l2] L2 St S = ev c 275 31 [l0, l1, l2] L2 St S := ev_go i275_18 rfl
theorem i275_21 : insAt 275 21 = some (.iload_n 1, 1, (0, 0, 0, 0), 0) := rfl
theorem s275_21 {c : Nat → List AV → SS → Option Out} {l0 l2 : Option AV} {x : Int32} {L2 : List (Nat × AV)} {St : List AV} {S : SS} : ev c 275 21 [l0, some (aI x), l2] L2 St S = ev c 275 22 [l0, some (aI x), l2] L2 (aI x :: St) S := ev_go i275_21 rfl
theorem i275_22 : insAt 275 22 = some (.iload_n 2, 1, (0, 0, 0, 0), 0) := rfl
theorem s275_22 {c : Nat → List AV → SS → Option Out} {l0 l1 : Option AV} {x : Int32} {L2 : List (Nat × AV)} {St : List AV} {S : SS} : ev c 275 22 [l0, l1, some (aI x)] L2 St S = ev c 275 23 [l0, l1, some (aI x)] L2 (aI x :: St) S := ev_go i275_22 rfl
theorem i275_23 : insAt 275 23 = some (.if_icmp .ne 7, 3, (0, 0, 0, 0), 0) := rfl
theorem s275_23 {c : Nat → List AV → SS → Option Out} {l0 l1 l2 : Option AV} {x y : Int32} {L2 : List (Nat × AV)} {St : List AV} {S : SS} : ev c 275 23 [l0, l1, l2] L2 (aI y :: aI x :: St) S = if x = y then ev c 275 26 [l0, l1, l2] L2 St S else ev c 275 30 [l0, l1, l2] L2 St S := (ev_br i275_23 rfl).trans (ite_not _ _ _)
theorem i275_26 : insAt 275 26 = some (.iconst 2, 1, (0, 0, 0, 0), 0) := rfl
theorem s275_26 {c : Nat → List AV → SS → Option Out} {l0 l1 l2 : Option AV} {L2 : List (Nat × AV)} {St : List AV} {S : SS} : ev c 275 26 [l0, l1, l2] L2 St S = ev c 275 27 [l0, l1, l2] L2 (aI 2 :: St) S := ev_go i275_26 rfl
theorem i275_27 : insAt 275 27 = some (.goto 4, 3, (0, 0, 0, 0), 0) := rfl
theorem s275_27 {c : Nat → List AV → SS → Option Out} {l0 l1 l2 : Option AV} {L2 : List (Nat × AV)} {St : List AV} {S : SS} : ev c 275 27 [l0, l1, l2] L2 St S = ev c 275 31 [l0, l1, l2] L2 St S := ev_go i275_27 rfl
theorem i275_30 : insAt 275 30 = some (.iconst 0, 1, (0, 0, 0, 0), 0) := rfl
theorem s275_30 {c : Nat → List AV → SS → Option Out} {l0 l1 l2 : Option AV} {L2 : List (Nat × AV)} {St : List AV} {S : SS} : ev c 275 30 [l0, l1, l2] L2 St S = ev c 275 31 [l0, l1, l2] L2 (aI 0 :: St) S := ev_go i275_30 rfl
theorem i275_31 : insAt 275 31 = some (.putfield 31, 3, (12, 7, 0, 0), 371) := rfl
theorem s275_31 {c : Nat → List AV → SS → Option Out} {l0 l1 l2 : Option AV} {j t : Nat} {x : Int32} {L2 : List (Nat × AV)} {St : List AV} {S : SS} : ev c 275 31 [l0, l1, l2] L2 (aI x :: aR (12, j, t) :: St) S = ev c 275 34 [l0, l1, l2] L2 St (setI S.1 (12, j, t) 7 x, S.2) := ev_go i275_31 rfl
theorem i275_34 : insAt 275 34 = some (.aload_n 0, 1, (0, 0, 0, 0), 0) := rfl
theorem s275_34 {c : Nat → List AV → SS → Option Out} {l1 l2 : Option AV} {o : OId} {L2 : List (Nat × AV)} {St : List AV} {S : SS} : ev c 275 34 [some (aR o), l1, l2] L2 St S = ev c 275 35 [some (aR o), l1, l2] L2 (aR o :: St) S := ev_go i275_34 rfl
theorem i275_35 : insAt 275 35 = some (.getfield 31, 3, (12, 7, 0, 0), 371) := rfl
theorem s275_35 {c : Nat → List AV → SS → Option Out} {l0 l1 l2 : Option AV} {j t : Nat} {L2 : List (Nat × AV)} {St : List AV} {S : SS} : ev c 275 35 [l0, l1, l2] L2 (aR (12, j, t) :: St) S = ev c 275 38 [l0, l1, l2] L2 (aI (S.1 (12, j, t) 7) :: St) S := ev_go i275_35 rfl
theorem i275_38 : insAt 275 38 = some (.ifCond .ne 7, 3, (0, 0, 0, 0), 0) := rfl
theorem s275_38 {c : Nat → List AV → SS → Option Out} {l0 l1 l2 : Option AV} {x : Int32} {L2 : List (Nat × AV)} {St : List AV} {S : SS} : ev c 275 38 [l0, l1, l2] L2 (aI x :: St) S = if x = 0 then ev c 275 41 [l0, l1, l2] L2 St S else ev c 275 45 [l0, l1, l2] L2 St S := (ev_br i275_38 rfl).trans (ite_not _ _ _)
theorem i275_41 : insAt 275 41 = some (.iconst 1, 1, (0, 0, 0, 0), 0) := rfl
theorem s275_41 {c : Nat → List AV → SS → Option Out} {l0 l1 l2 : Option AV} {L2 : List (Nat × AV)} {St : List AV} {S : SS} : ev c 275 41 [l0, l1, l2] L2 St S = ev c 275 42 [l0, l1, l2] L2 (aI 1 :: St) S := ev_go i275_41 rfl
theorem i275_42 : insAt 275 42 = some (.goto 4, 3, (0, 0, 0, 0), 0) := rfl
theorem s275_42 {c : Nat → List AV → SS → Option Out} {l0 l1 l2 : Option AV} {L2 : List (Nat × AV)} {St : List AV} {S : SS} : ev c 275 42 [l0, l1, l2] L2 St S = ev c 275 46 [l0, l1, l2] L2 St S := ev_go i275_42 rfl
theorem i275_45 : insAt 275 45 = some (.iconst 0, 1, (0, 0, 0, 0), 0) := rfl
theorem s275_45 {c : Nat → List AV → SS → Option Out} {l0 l1 l2 : Option AV} {L2 : List (Nat × AV)} {St : List AV} {S : SS} : ev c 275 45 [l0, l1, l2] L2 St S = ev c 275 46 [l0, l1, l2] L2 (aI 0 :: St) S := ev_go i275_45 rfl
theorem i275_46 : insAt 275 46 = some (.ireturn, 1, (0, 0, 0, 0), 0) := rfl
theorem s275_46 {c : Nat → List AV → SS → Option Out} {l0 l1 l2 : Option AV} {x : Int32} {L2 : List (Nat × AV)} {S : SS} : ev c 275 46 [l0, l1, l2] L2 [aI x] S = if x = 0 ∨ x = 1 then some (.inl (some (aI x)), S) else none := ev_rt i275_46 rfl
theorem m275 {d : Nat} {o : OId} {a0 : Int32} {a1 : Int32} {S : SS} : evm (d + 1) 275 [aR o, aI a0, aI a1] S = ev (evm d) 275 0 [some (aR o), some (aI a0), some (aI a1)] [] [] S := evm_s (n := 3) rfl (Nat.le_of_ble_eq_true rfl) rfl rfl
/-! FrequencyOfficeModel.baseSeparation(II)I -/
theorem i276_0 : insAt 276 0 = some (.aload_n 0, 1, (0, 0, 0, 0), 0) := rfl
theorem s276_0 {c : Nat → List AV → SS → Option Out} {l1 l2 : Option AV} {o : OId} {L2 : List (Nat × AV)} {St : List AV} {S : SS} : ev c 276 0 [some (aR o), l1, l2] L2 St S = ev c 276 1 [some (aR o), l1, l2] L2 (aR o :: St) S := ev_go i276_0 rfl
theorem i276_1 : insAt 276 1 = some (.iload_n 1, 1, (0, 0, 0, 0), 0) := rfl
theorem s276_1 {c : Nat → List AV → SS → Option Out} {l0 l2 : Option AV} {x : Int32} {L2 : List (Nat × AV)} {St : List AV} {S : SS} : ev c 276 1 [l0, some (aI x), l2] L2 St S = ev c 276 2 [l0, some (aI x), l2] L2 (aI x :: St) S := ev_go i276_1 rfl
theorem i276_2 : insAt 276 2 = some (.iload_n 2, 1, (0, 0, 0, 0), 0) := rfl
theorem s276_2 {c : Nat → List AV → SS → Option Out} {l0 l1 : Option AV} {x : Int32} {L2 : List (Nat × AV)} {St : List AV} {S : SS} : ev c 276 2 [l0, l1, some (aI x)] L2 St S = ev c 276 3 [l0, l1, some (aI x)] L2 (aI x :: St) S := ev_go i276_2 rfl
theorem i276_3 : insAt 276 3 = some (.invokevirtual 189, 3, (275, 2, 2, 12), 419) := rfl
theorem s276_3 {c : Nat → List AV → SS → Option Out} {l0 l1 l2 : Option AV} {a0 : Int32} {a1 : Int32} {j t : Nat} {L2 : List (Nat × AV)} {S : SS} : ev c 276 3 [l0, l1, l2] L2 [aI a1, aI a0, aR (12, j, t)] S = ck (c 275 [aR (12, j, t), aI a0, aI a1] S) (fun v S' => ev c 276 6 [l0, l1, l2] L2 (v.toList ++ []) S') := ev_call i276_3 rfl
theorem i276_6 : insAt 276 6 = some (.ifCond .eq 20, 3, (0, 0, 0, 0), 0) := rfl
theorem s276_6 {c : Nat → List AV → SS → Option Out} {l0 l1 l2 : Option AV} {x : Int32} {L2 : List (Nat × AV)} {St : List AV} {S : SS} : ev c 276 6 [l0, l1, l2] L2 (aI x :: St) S = if x = 0 then ev c 276 26 [l0, l1, l2] L2 St S else ev c 276 9 [l0, l1, l2] L2 St S := ev_br i276_6 rfl
theorem i276_9 : insAt 276 9 = some (.aload_n 0, 1, (0, 0, 0, 0), 0) := rfl
theorem s276_9 {c : Nat → List AV → SS → Option Out} {l1 l2 : Option AV} {o : OId} {L2 : List (Nat × AV)} {St : List AV} {S : SS} : ev c 276 9 [some (aR o), l1, l2] L2 St S = ev c 276 10 [some (aR o), l1, l2] L2 (aR o :: St) S := ev_go i276_9 rfl
theorem i276_10 : insAt 276 10 = some (.aload_n 0, 1, (0, 0, 0, 0), 0) := rfl
theorem s276_10 {c : Nat → List AV → SS → Option Out} {l1 l2 : Option AV} {o : OId} {L2 : List (Nat × AV)} {St : List AV} {S : SS} : ev c 276 10 [some (aR o), l1, l2] L2 St S = ev c 276 11 [some (aR o), l1, l2] L2 (aR o :: St) S := ev_go i276_10 rfl
theorem i276_11 : insAt 276 11 = some (.iload_n 1, 1, (0, 0, 0, 0), 0) := rfl
theorem s276_11 {c : Nat → List AV → SS → Option Out} {l0 l2 : Option AV} {x : Int32} {L2 : List (Nat × AV)} {St : List AV} {S : SS} : ev c 276 11 [l0, some (aI x), l2] L2 St S = ev c 276 12 [l0, some (aI x), l2] L2 (aI x :: St) S := ev_go i276_11 rfl
theorem i276_12 : insAt 276 12 = some (.invokevirtual 173, 3, (253, 1, 2, 12), 414) := rfl
theorem s276_12 {c : Nat → List AV → SS → Option Out} {l0 l1 l2 : Option AV} {t0 : AV} {a0 : Int32} {j t : Nat} {L2 : List (Nat × AV)} {S : SS} : ev c 276 12 [l0, l1, l2] L2 [aI a0, aR (12, j, t), t0] S = ck (c 253 [aR (12, j, t), aI a0] S) (fun v S' => ev c 276 15 [l0, l1, l2] L2 (v.toList ++ [t0]) S') := ev_call i276_12 rfl
theorem i276_15 : insAt 276 15 = some (.aload_n 0, 1, (0, 0, 0, 0), 0) := rfl
theorem s276_15 {c : Nat → List AV → SS → Option Out} {l1 l2 : Option AV} {o : OId} {L2 : List (Nat × AV)} {St : List AV} {S : SS} : ev c 276 15 [some (aR o), l1, l2] L2 St S = ev c 276 16 [some (aR o), l1, l2] L2 (aR o :: St) S := ev_go i276_15 rfl
theorem i276_16 : insAt 276 16 = some (.iload_n 2, 1, (0, 0, 0, 0), 0) := rfl
theorem s276_16 {c : Nat → List AV → SS → Option Out} {l0 l1 : Option AV} {x : Int32} {L2 : List (Nat × AV)} {St : List AV} {S : SS} : ev c 276 16 [l0, l1, some (aI x)] L2 St S = ev c 276 17 [l0, l1, some (aI x)] L2 (aI x :: St) S := ev_go i276_16 rfl
theorem i276_17 : insAt 276 17 = some (.invokevirtual 173, 3, (253, 1, 2, 12), 414) := rfl
theorem s276_17 {c : Nat → List AV → SS → Option Out} {l0 l1 l2 : Option AV} {t0 t1 : AV} {a0 : Int32} {j t : Nat} {L2 : List (Nat × AV)} {S : SS} : ev c 276 17 [l0, l1, l2] L2 [aI a0, aR (12, j, t), t0, t1] S = ck (c 253 [aR (12, j, t), aI a0] S) (fun v S' => ev c 276 20 [l0, l1, l2] L2 (v.toList ++ [t0, t1]) S') := ev_call i276_17 rfl
theorem i276_20 : insAt 276 20 = some (.invokevirtual 103, 3, (241, 2, 2, 12), 408) := rfl
theorem s276_20 {c : Nat → List AV → SS → Option Out} {l0 l1 l2 : Option AV} {a0 : Int32} {a1 : Int32} {j t : Nat} {L2 : List (Nat × AV)} {S : SS} : ev c 276 20 [l0, l1, l2] L2 [aI a1, aI a0, aR (12, j, t)] S = ck (c 241 [aR (12, j, t), aI a0, aI a1] S) (fun v S' => ev c 276 23 [l0, l1, l2] L2 (v.toList ++ []) S') := ev_call i276_20 rfl
theorem i276_23 : insAt 276 23 = some (.goto 4, 3, (0, 0, 0, 0), 0) := rfl
theorem s276_23 {c : Nat → List AV → SS → Option Out} {l0 l1 l2 : Option AV} {L2 : List (Nat × AV)} {St : List AV} {S : SS} : ev c 276 23 [l0, l1, l2] L2 St S = ev c 276 27 [l0, l1, l2] L2 St S := ev_go i276_23 rfl
theorem i276_26 : insAt 276 26 = some (.iconst 0, 1, (0, 0, 0, 0), 0) := rfl
theorem s276_26 {c : Nat → List AV → SS → Option Out} {l0 l1 l2 : Option AV} {L2 : List (Nat × AV)} {St : List AV} {S : SS} : ev c 276 26 [l0, l1, l2] L2 St S = ev c 276 27 [l0, l1, l2] L2 (aI 0 :: St) S := ev_go i276_26 rfl
theorem i276_27 : insAt 276 27 = some (.ireturn, 1, (0, 0, 0, 0), 0) := rfl
theorem s276_27 {c : Nat → List AV → SS → Option Out} {l0 l1 l2 : Option AV} {x : Int32} {L2 : List (Nat × AV)} {S : SS} : ev c 276 27 [l0, l1, l2] L2 [aI x] S = some (.inl (some (aI x)), S) := ev_end i276_27 rfl
theorem m276 {d : Nat} {o : OId} {a0 : Int32} {a1 : Int32} {S : SS} : evm (d + 1) 276 [aR o, aI a0, aI a1] S = ev (evm d) 276 0 [some (aR o), some (aI a0), some (aI a1)] [] [] S := evm_s (n := 3) rfl (Nat.le_of_ble_eq_true rfl) rfl rfl
/-! FrequencyOfficeModel.complaintCount(II)I -/
theorem i277_0 : insAt 277 0 = some (.aload_n 0, 1, (0, 0, 0, 0), 0) := rfl
theorem s277_0 {c : Nat → List AV → SS → Option Out} {l1 l2 : Option AV} {o : OId} {L2 : List (Nat × AV)} {St : List AV} {S : SS} : ev c 277 0 [some (aR o), l1, l2] L2 St S = ev c 277 1 [some (aR o), l1, l2] L2 (aR o :: St) S := ev_go i277_0 rfl
theorem i277_1 : insAt 277 1 = some (.iload_n 1, 1, (0, 0, 0, 0), 0) := rfl
theorem s277_1 {c : Nat → List AV → SS → Option Out} {l0 l2 : Option AV} {x : Int32} {L2 : List (Nat × AV)} {St : List AV} {S : SS} : ev c 277 1 [l0, some (aI x), l2] L2 St S = ev c 277 2 [l0, some (aI x), l2] L2 (aI x :: St) S := ev_go i277_1 rfl
theorem i277_2 : insAt 277 2 = some (.iload_n 2, 1, (0, 0, 0, 0), 0) := rfl
theorem s277_2 {c : Nat → List AV → SS → Option Out} {l0 l1 : Option AV} {x : Int32} {L2 : List (Nat × AV)} {St : List AV} {S : SS} : ev c 277 2 [l0, l1, some (aI x)] L2 St S = ev c 277 3 [l0, l1, some (aI x)] L2 (aI x :: St) S := ev_go i277_2 rfl
theorem i277_3 : insAt 277 3 = some (.invokevirtual 189, 3, (275, 2, 2, 12), 419) := rfl
theorem s277_3 {c : Nat → List AV → SS → Option Out} {l0 l1 l2 : Option AV} {a0 : Int32} {a1 : Int32} {j t : Nat} {L2 : List (Nat × AV)} {S : SS} : ev c 277 3 [l0, l1, l2] L2 [aI a1, aI a0, aR (12, j, t)] S = ck (c 275 [aR (12, j, t), aI a0, aI a1] S) (fun v S' => ev c 277 6 [l0, l1, l2] L2 (v.toList ++ []) S') := ev_call i277_3 rfl
theorem i277_6 : insAt 277 6 = some (.ifCond .eq 20, 3, (0, 0, 0, 0), 0) := rfl
theorem s277_6 {c : Nat → List AV → SS → Option Out} {l0 l1 l2 : Option AV} {x : Int32} {L2 : List (Nat × AV)} {St : List AV} {S : SS} : ev c 277 6 [l0, l1, l2] L2 (aI x :: St) S = if x = 0 then ev c 277 26 [l0, l1, l2] L2 St S else ev c 277 9 [l0, l1, l2] L2 St S := ev_br i277_6 rfl
theorem i277_9 : insAt 277 9 = some (.aload_n 0, 1, (0, 0, 0, 0), 0) := rfl
theorem s277_9 {c : Nat → List AV → SS → Option Out} {l1 l2 : Option AV} {o : OId} {L2 : List (Nat × AV)} {St : List AV} {S : SS} : ev c 277 9 [some (aR o), l1, l2] L2 St S = ev c 277 10 [some (aR o), l1, l2] L2 (aR o :: St) S := ev_go i277_9 rfl
theorem i277_10 : insAt 277 10 = some (.aload_n 0, 1, (0, 0, 0, 0), 0) := rfl
theorem s277_10 {c : Nat → List AV → SS → Option Out} {l1 l2 : Option AV} {o : OId} {L2 : List (Nat × AV)} {St : List AV} {S : SS} : ev c 277 10 [some (aR o), l1, l2] L2 St S = ev c 277 11 [some (aR o), l1, l2] L2 (aR o :: St) S := ev_go i277_10 rfl
theorem i277_11 : insAt 277 11 = some (.iload_n 1, 1, (0, 0, 0, 0), 0) := rfl
theorem s277_11 {c : Nat → List AV → SS → Option Out} {l0 l2 : Option AV} {x : Int32} {L2 : List (Nat × AV)} {St : List AV} {S : SS} : ev c 277 11 [l0, some (aI x), l2] L2 St S = ev c 277 12 [l0, some (aI x), l2] L2 (aI x :: St) S := ev_go i277_11 rfl
theorem i277_12 : insAt 277 12 = some (.invokevirtual 173, 3, (253, 1, 2, 12), 414) := rfl
theorem s277_12 {c : Nat → List AV → SS → Option Out} {l0 l1 l2 : Option AV} {t0 : AV} {a0 : Int32} {j t : Nat} {L2 : List (Nat × AV)} {S : SS} : ev c 277 12 [l0, l1, l2] L2 [aI a0, aR (12, j, t), t0] S = ck (c 253 [aR (12, j, t), aI a0] S) (fun v S' => ev c 277 15 [l0, l1, l2] L2 (v.toList ++ [t0]) S') := ev_call i277_12 rfl
theorem i277_15 : insAt 277 15 = some (.aload_n 0, 1, (0, 0, 0, 0), 0) := rfl
theorem s277_15 {c : Nat → List AV → SS → Option Out} {l1 l2 : Option AV} {o : OId} {L2 : List (Nat × AV)} {St : List AV} {S : SS} : ev c 277 15 [some (aR o), l1, l2] L2 St S = ev c 277 16 [some (aR o), l1, l2] L2 (aR o :: St) S := ev_go i277_15 rfl
theorem i277_16 : insAt 277 16 = some (.iload_n 2, 1, (0, 0, 0, 0), 0) := rfl
theorem s277_16 {c : Nat → List AV → SS → Option Out} {l0 l1 : Option AV} {x : Int32} {L2 : List (Nat × AV)} {St : List AV} {S : SS} : ev c 277 16 [l0, l1, some (aI x)] L2 St S = ev c 277 17 [l0, l1, some (aI x)] L2 (aI x :: St) S := ev_go i277_16 rfl
theorem i277_17 : insAt 277 17 = some (.invokevirtual 173, 3, (253, 1, 2, 12), 414) := rfl
theorem s277_17 {c : Nat → List AV → SS → Option Out} {l0 l1 l2 : Option AV} {t0 t1 : AV} {a0 : Int32} {j t : Nat} {L2 : List (Nat × AV)} {S : SS} : ev c 277 17 [l0, l1, l2] L2 [aI a0, aR (12, j, t), t0, t1] S = ck (c 253 [aR (12, j, t), aI a0] S) (fun v S' => ev c 277 20 [l0, l1, l2] L2 (v.toList ++ [t0, t1]) S') := ev_call i277_17 rfl
theorem i277_20 : insAt 277 20 = some (.invokevirtual 106, 3, (237, 2, 2, 12), 404) := rfl
theorem s277_20 {c : Nat → List AV → SS → Option Out} {l0 l1 l2 : Option AV} {a0 : Int32} {a1 : Int32} {j t : Nat} {L2 : List (Nat × AV)} {S : SS} : ev c 277 20 [l0, l1, l2] L2 [aI a1, aI a0, aR (12, j, t)] S = ck (c 237 [aR (12, j, t), aI a0, aI a1] S) (fun v S' => ev c 277 23 [l0, l1, l2] L2 (v.toList ++ []) S') := ev_call i277_20 rfl
theorem i277_23 : insAt 277 23 = some (.goto 4, 3, (0, 0, 0, 0), 0) := rfl
theorem s277_23 {c : Nat → List AV → SS → Option Out} {l0 l1 l2 : Option AV} {L2 : List (Nat × AV)} {St : List AV} {S : SS} : ev c 277 23 [l0, l1, l2] L2 St S = ev c 277 27 [l0, l1, l2] L2 St S := ev_go i277_23 rfl
theorem i277_26 : insAt 277 26 = some (.iconst 0, 1, (0, 0, 0, 0), 0) := rfl
theorem s277_26 {c : Nat → List AV → SS → Option Out} {l0 l1 l2 : Option AV} {L2 : List (Nat × AV)} {St : List AV} {S : SS} : ev c 277 26 [l0, l1, l2] L2 St S = ev c 277 27 [l0, l1, l2] L2 (aI 0 :: St) S := ev_go i277_26 rfl
theorem i277_27 : insAt 277 27 = some (.ireturn, 1, (0, 0, 0, 0), 0) := rfl
theorem s277_27 {c : Nat → List AV → SS → Option Out} {l0 l1 l2 : Option AV} {x : Int32} {L2 : List (Nat × AV)} {S : SS} : ev c 277 27 [l0, l1, l2] L2 [aI x] S = some (.inl (some (aI x)), S) := ev_end i277_27 rfl
theorem m277 {d : Nat} {o : OId} {a0 : Int32} {a1 : Int32} {S : SS} : evm (d + 1) 277 [aR o, aI a0, aI a1] S = ev (evm d) 277 0 [some (aR o), some (aI a0), some (aI a1)] [] [] S := evm_s (n := 3) rfl (Nat.le_of_ble_eq_true rfl) rfl rfl
/-! FrequencyOfficeModel.separation(II)I -/
theorem i278_0 : insAt 278 0 = some (.aload_n 0, 1, (0, 0, 0, 0), 0) := rfl
theorem s278_0 {c : Nat → List AV → SS → Option Out} {l1 l2 : Option AV} {o : OId} {L2 : List (Nat × AV)} {St : List AV} {S : SS} : ev c 278 0 [some (aR o), l1, l2] L2 St S = ev c 278 1 [some (aR o), l1, l2] L2 (aR o :: St) S := ev_go i278_0 rfl
theorem i278_1 : insAt 278 1 = some (.iload_n 1, 1, (0, 0, 0, 0), 0) := rfl
theorem s278_1 {c : Nat → List AV → SS → Option Out} {l0 l2 : Option AV} {x : Int32} {L2 : List (Nat × AV)} {St : List AV} {S : SS} : ev c 278 1 [l0, some (aI x), l2] L2 St S = ev c 278 2 [l0, some (aI x), l2] L2 (aI x :: St) S := ev_go i278_1 rfl
theorem i278_2 : insAt 278 2 = some (.iload_n 2, 1, (0, 0, 0, 0), 0) := rfl
theorem s278_2 {c : Nat → List AV → SS → Option Out} {l0 l1 : Option AV} {x : Int32} {L2 : List (Nat × AV)} {St : List AV} {S : SS} : ev c 278 2 [l0, l1, some (aI x)] L2 St S = ev c 278 3 [l0, l1, some (aI x)] L2 (aI x :: St) S := ev_go i278_2 rfl
theorem i278_3 : insAt 278 3 = some (.invokevirtual 189, 3, (275, 2, 2, 12), 419) := rfl
theorem s278_3 {c : Nat → List AV → SS → Option Out} {l0 l1 l2 : Option AV} {a0 : Int32} {a1 : Int32} {j t : Nat} {L2 : List (Nat × AV)} {S : SS} : ev c 278 3 [l0, l1, l2] L2 [aI a1, aI a0, aR (12, j, t)] S = ck (c 275 [aR (12, j, t), aI a0, aI a1] S) (fun v S' => ev c 278 6 [l0, l1, l2] L2 (v.toList ++ []) S') := ev_call i278_3 rfl
theorem i278_6 : insAt 278 6 = some (.ifCond .eq 20, 3, (0, 0, 0, 0), 0) := rfl
theorem s278_6 {c : Nat → List AV → SS → Option Out} {l0 l1 l2 : Option AV} {x : Int32} {L2 : List (Nat × AV)} {St : List AV} {S : SS} : ev c 278 6 [l0, l1, l2] L2 (aI x :: St) S = if x = 0 then ev c 278 26 [l0, l1, l2] L2 St S else ev c 278 9 [l0, l1, l2] L2 St S := ev_br i278_6 rfl
theorem i278_9 : insAt 278 9 = some (.aload_n 0, 1, (0, 0, 0, 0), 0) := rfl
theorem s278_9 {c : Nat → List AV → SS → Option Out} {l1 l2 : Option AV} {o : OId} {L2 : List (Nat × AV)} {St : List AV} {S : SS} : ev c 278 9 [some (aR o), l1, l2] L2 St S = ev c 278 10 [some (aR o), l1, l2] L2 (aR o :: St) S := ev_go i278_9 rfl
theorem i278_10 : insAt 278 10 = some (.aload_n 0, 1, (0, 0, 0, 0), 0) := rfl
theorem s278_10 {c : Nat → List AV → SS → Option Out} {l1 l2 : Option AV} {o : OId} {L2 : List (Nat × AV)} {St : List AV} {S : SS} : ev c 278 10 [some (aR o), l1, l2] L2 St S = ev c 278 11 [some (aR o), l1, l2] L2 (aR o :: St) S := ev_go i278_10 rfl
theorem i278_11 : insAt 278 11 = some (.iload_n 1, 1, (0, 0, 0, 0), 0) := rfl
theorem s278_11 {c : Nat → List AV → SS → Option Out} {l0 l2 : Option AV} {x : Int32} {L2 : List (Nat × AV)} {St : List AV} {S : SS} : ev c 278 11 [l0, some (aI x), l2] L2 St S = ev c 278 12 [l0, some (aI x), l2] L2 (aI x :: St) S := ev_go i278_11 rfl
theorem i278_12 : insAt 278 12 = some (.invokevirtual 173, 3, (253, 1, 2, 12), 414) := rfl
theorem s278_12 {c : Nat → List AV → SS → Option Out} {l0 l1 l2 : Option AV} {t0 : AV} {a0 : Int32} {j t : Nat} {L2 : List (Nat × AV)} {S : SS} : ev c 278 12 [l0, l1, l2] L2 [aI a0, aR (12, j, t), t0] S = ck (c 253 [aR (12, j, t), aI a0] S) (fun v S' => ev c 278 15 [l0, l1, l2] L2 (v.toList ++ [t0]) S') := ev_call i278_12 rfl
theorem i278_15 : insAt 278 15 = some (.aload_n 0, 1, (0, 0, 0, 0), 0) := rfl
theorem s278_15 {c : Nat → List AV → SS → Option Out} {l1 l2 : Option AV} {o : OId} {L2 : List (Nat × AV)} {St : List AV} {S : SS} : ev c 278 15 [some (aR o), l1, l2] L2 St S = ev c 278 16 [some (aR o), l1, l2] L2 (aR o :: St) S := ev_go i278_15 rfl
theorem i278_16 : insAt 278 16 = some (.iload_n 2, 1, (0, 0, 0, 0), 0) := rfl
theorem s278_16 {c : Nat → List AV → SS → Option Out} {l0 l1 : Option AV} {x : Int32} {L2 : List (Nat × AV)} {St : List AV} {S : SS} : ev c 278 16 [l0, l1, some (aI x)] L2 St S = ev c 278 17 [l0, l1, some (aI x)] L2 (aI x :: St) S := ev_go i278_16 rfl
theorem i278_17 : insAt 278 17 = some (.invokevirtual 173, 3, (253, 1, 2, 12), 414) := rfl
theorem s278_17 {c : Nat → List AV → SS → Option Out} {l0 l1 l2 : Option AV} {t0 t1 : AV} {a0 : Int32} {j t : Nat} {L2 : List (Nat × AV)} {S : SS} : ev c 278 17 [l0, l1, l2] L2 [aI a0, aR (12, j, t), t0, t1] S = ck (c 253 [aR (12, j, t), aI a0] S) (fun v S' => ev c 278 20 [l0, l1, l2] L2 (v.toList ++ [t0, t1]) S') := ev_call i278_17 rfl
theorem i278_20 : insAt 278 20 = some (.invokevirtual 112, 3, (240, 2, 2, 12), 407) := rfl
theorem s278_20 {c : Nat → List AV → SS → Option Out} {l0 l1 l2 : Option AV} {a0 : Int32} {a1 : Int32} {j t : Nat} {L2 : List (Nat × AV)} {S : SS} : ev c 278 20 [l0, l1, l2] L2 [aI a1, aI a0, aR (12, j, t)] S = ck (c 240 [aR (12, j, t), aI a0, aI a1] S) (fun v S' => ev c 278 23 [l0, l1, l2] L2 (v.toList ++ []) S') := ev_call i278_20 rfl
theorem i278_23 : insAt 278 23 = some (.goto 4, 3, (0, 0, 0, 0), 0) := rfl
theorem s278_23 {c : Nat → List AV → SS → Option Out} {l0 l1 l2 : Option AV} {L2 : List (Nat × AV)} {St : List AV} {S : SS} : ev c 278 23 [l0, l1, l2] L2 St S = ev c 278 27 [l0, l1, l2] L2 St S := ev_go i278_23 rfl
theorem i278_26 : insAt 278 26 = some (.iconst 0, 1, (0, 0, 0, 0), 0) := rfl
theorem s278_26 {c : Nat → List AV → SS → Option Out} {l0 l1 l2 : Option AV} {L2 : List (Nat × AV)} {St : List AV} {S : SS} : ev c 278 26 [l0, l1, l2] L2 St S = ev c 278 27 [l0, l1, l2] L2 (aI 0 :: St) S := ev_go i278_26 rfl
theorem i278_27 : insAt 278 27 = some (.ireturn, 1, (0, 0, 0, 0), 0) := rfl
theorem s278_27 {c : Nat → List AV → SS → Option Out} {l0 l1 l2 : Option AV} {x : Int32} {L2 : List (Nat × AV)} {S : SS} : ev c 278 27 [l0, l1, l2] L2 [aI x] S = some (.inl (some (aI x)), S) := ev_end i278_27 rfl
theorem m278 {d : Nat} {o : OId} {a0 : Int32} {a1 : Int32} {S : SS} : evm (d + 1) 278 [aR o, aI a0, aI a1] S = ev (evm d) 278 0 [some (aR o), some (aI a0), some (aI a1)] [] [] S := evm_s (n := 3) rfl (Nat.le_of_ble_eq_true rfl) rfl rfl
/-! FrequencyOfficeModel.margin(II)I -/
theorem i279_0 : insAt 279 0 = some (.aload_n 0, 1, (0, 0, 0, 0), 0) := rfl
theorem s279_0 {c : Nat → List AV → SS → Option Out} {l1 l2 : Option AV} {o : OId} {L2 : List (Nat × AV)} {St : List AV} {S : SS} : ev c 279 0 [some (aR o), l1, l2] L2 St S = ev c 279 1 [some (aR o), l1, l2] L2 (aR o :: St) S := ev_go i279_0 rfl
theorem i279_1 : insAt 279 1 = some (.iload_n 1, 1, (0, 0, 0, 0), 0) := rfl
theorem s279_1 {c : Nat → List AV → SS → Option Out} {l0 l2 : Option AV} {x : Int32} {L2 : List (Nat × AV)} {St : List AV} {S : SS} : ev c 279 1 [l0, some (aI x), l2] L2 St S = ev c 279 2 [l0, some (aI x), l2] L2 (aI x :: St) S := ev_go i279_1 rfl
theorem i279_2 : insAt 279 2 = some (.iload_n 2, 1, (0, 0, 0, 0), 0) := rfl
theorem s279_2 {c : Nat → List AV → SS → Option Out} {l0 l1 : Option AV} {x : Int32} {L2 : List (Nat × AV)} {St : List AV} {S : SS} : ev c 279 2 [l0, l1, some (aI x)] L2 St S = ev c 279 3 [l0, l1, some (aI x)] L2 (aI x :: St) S := ev_go i279_2 rfl
theorem i279_3 : insAt 279 3 = some (.invokevirtual 189, 3, (275, 2, 2, 12), 419) := rfl
theorem s279_3 {c : Nat → List AV → SS → Option Out} {l0 l1 l2 : Option AV} {a0 : Int32} {a1 : Int32} {j t : Nat} {L2 : List (Nat × AV)} {S : SS} : ev c 279 3 [l0, l1, l2] L2 [aI a1, aI a0, aR (12, j, t)] S = ck (c 275 [aR (12, j, t), aI a0, aI a1] S) (fun v S' => ev c 279 6 [l0, l1, l2] L2 (v.toList ++ []) S') := ev_call i279_3 rfl
theorem i279_6 : insAt 279 6 = some (.ifCond .eq 45, 3, (0, 0, 0, 0), 0) := rfl
theorem s279_6 {c : Nat → List AV → SS → Option Out} {l0 l1 l2 : Option AV} {x : Int32} {L2 : List (Nat × AV)} {St : List AV} {S : SS} : ev c 279 6 [l0, l1, l2] L2 (aI x :: St) S = if x = 0 then ev c 279 51 [l0, l1, l2] L2 St S else ev c 279 9 [l0, l1, l2] L2 St S := ev_br i279_6 rfl
theorem i279_9 : insAt 279 9 = some (.aload_n 0, 1, (0, 0, 0, 0), 0) := rfl
theorem s279_9 {c : Nat → List AV → SS → Option Out} {l1 l2 : Option AV} {o : OId} {L2 : List (Nat × AV)} {St : List AV} {S : SS} : ev c 279 9 [some (aR o), l1, l2] L2 St S = ev c 279 10 [some (aR o), l1, l2] L2 (aR o :: St) S := ev_go i279_9 rfl
theorem i279_10 : insAt 279 10 = some (.aload_n 0, 1, (0, 0, 0, 0), 0) := rfl
theorem s279_10 {c : Nat → List AV → SS → Option Out} {l1 l2 : Option AV} {o : OId} {L2 : List (Nat × AV)} {St : List AV} {S : SS} : ev c 279 10 [some (aR o), l1, l2] L2 St S = ev c 279 11 [some (aR o), l1, l2] L2 (aR o :: St) S := ev_go i279_10 rfl
theorem i279_11 : insAt 279 11 = some (.iload_n 1, 1, (0, 0, 0, 0), 0) := rfl
theorem s279_11 {c : Nat → List AV → SS → Option Out} {l0 l2 : Option AV} {x : Int32} {L2 : List (Nat × AV)} {St : List AV} {S : SS} : ev c 279 11 [l0, some (aI x), l2] L2 St S = ev c 279 12 [l0, some (aI x), l2] L2 (aI x :: St) S := ev_go i279_11 rfl
theorem i279_12 : insAt 279 12 = some (.invokevirtual 173, 3, (253, 1, 2, 12), 414) := rfl
theorem s279_12 {c : Nat → List AV → SS → Option Out} {l0 l1 l2 : Option AV} {t0 : AV} {a0 : Int32} {j t : Nat} {L2 : List (Nat × AV)} {S : SS} : ev c 279 12 [l0, l1, l2] L2 [aI a0, aR (12, j, t), t0] S = ck (c 253 [aR (12, j, t), aI a0] S) (fun v S' => ev c 279 15 [l0, l1, l2] L2 (v.toList ++ [t0]) S') := ev_call i279_12 rfl
theorem i279_15 : insAt 279 15 = some (.iconst 3, 1, (0, 0, 0, 0), 0) := rfl
theorem s279_15 {c : Nat → List AV → SS → Option Out} {l0 l1 l2 : Option AV} {L2 : List (Nat × AV)} {St : List AV} {S : SS} : ev c 279 15 [l0, l1, l2] L2 St S = ev c 279 16 [l0, l1, l2] L2 (aI 3 :: St) S := ev_go i279_15 rfl
theorem i279_16 : insAt 279 16 = some (.invokevirtual 75, 3, (231, 2, 2, 12), 396) := rfl
theorem s279_16 {c : Nat → List AV → SS → Option Out} {l0 l1 l2 : Option AV} {a0 : Int32} {a1 : Int32} {j t : Nat} {L2 : List (Nat × AV)} {S : SS} : ev c 279 16 [l0, l1, l2] L2 [aI a1, aI a0, aR (12, j, t)] S = ck (c 231 [aR (12, j, t), aI a0, aI a1] S) (fun v S' => ev c 279 19 [l0, l1, l2] L2 (v.toList ++ []) S') := ev_call i279_16 rfl
theorem i279_19 : insAt 279 19 = some (.aload_n 0, 1, (0, 0, 0, 0), 0) := rfl
theorem s279_19 {c : Nat → List AV → SS → Option Out} {l1 l2 : Option AV} {o : OId} {L2 : List (Nat × AV)} {St : List AV} {S : SS} : ev c 279 19 [some (aR o), l1, l2] L2 St S = ev c 279 20 [some (aR o), l1, l2] L2 (aR o :: St) S := ev_go i279_19 rfl
theorem i279_20 : insAt 279 20 = some (.aload_n 0, 1, (0, 0, 0, 0), 0) := rfl
theorem s279_20 {c : Nat → List AV → SS → Option Out} {l1 l2 : Option AV} {o : OId} {L2 : List (Nat × AV)} {St : List AV} {S : SS} : ev c 279 20 [some (aR o), l1, l2] L2 St S = ev c 279 21 [some (aR o), l1, l2] L2 (aR o :: St) S := ev_go i279_20 rfl
theorem i279_21 : insAt 279 21 = some (.iload_n 2, 1, (0, 0, 0, 0), 0) := rfl
theorem s279_21 {c : Nat → List AV → SS → Option Out} {l0 l1 : Option AV} {x : Int32} {L2 : List (Nat × AV)} {St : List AV} {S : SS} : ev c 279 21 [l0, l1, some (aI x)] L2 St S = ev c 279 22 [l0, l1, some (aI x)] L2 (aI x :: St) S := ev_go i279_21 rfl
theorem i279_22 : insAt 279 22 = some (.invokevirtual 173, 3, (253, 1, 2, 12), 414) := rfl
theorem s279_22 {c : Nat → List AV → SS → Option Out} {l0 l1 l2 : Option AV} {t0 t1 : AV} {a0 : Int32} {j t : Nat} {L2 : List (Nat × AV)} {S : SS} : ev c 279 22 [l0, l1, l2] L2 [aI a0, aR (12, j, t), t0, t1] S = ck (c 253 [aR (12, j, t), aI a0] S) (fun v S' => ev c 279 25 [l0, l1, l2] L2 (v.toList ++ [t0, t1]) S') := ev_call i279_22 rfl
theorem i279_25 : insAt 279 25 = some (.iconst 3, 1, (0, 0, 0, 0), 0) := rfl
theorem s279_25 {c : Nat → List AV → SS → Option Out} {l0 l1 l2 : Option AV} {L2 : List (Nat × AV)} {St : List AV} {S : SS} : ev c 279 25 [l0, l1, l2] L2 St S = ev c 279 26 [l0, l1, l2] L2 (aI 3 :: St) S := ev_go i279_25 rfl
theorem i279_26 : insAt 279 26 = some (.invokevirtual 75, 3, (231, 2, 2, 12), 396) := rfl
theorem s279_26 {c : Nat → List AV → SS → Option Out} {l0 l1 l2 : Option AV} {t0 : AV} {a0 : Int32} {a1 : Int32} {j t : Nat} {L2 : List (Nat × AV)} {S : SS} : ev c 279 26 [l0, l1, l2] L2 [aI a1, aI a0, aR (12, j, t), t0] S = ck (c 231 [aR (12, j, t), aI a0, aI a1] S) (fun v S' => ev c 279 29 [l0, l1, l2] L2 (v.toList ++ [t0]) S') := ev_call i279_26 rfl
theorem i279_29 : insAt 279 29 = some (.isub, 1, (0, 0, 0, 0), 0) := rfl
theorem s279_29 {c : Nat → List AV → SS → Option Out} {l0 l1 l2 : Option AV} {x y : Int32} {L2 : List (Nat × AV)} {St : List AV} {S : SS} : ev c 279 29 [l0, l1, l2] L2 (aI y :: aI x :: St) S = ev c 279 30 [l0, l1, l2] L2 (aI (x - y) :: St) S := ev_go i279_29 rfl
theorem i279_30 : insAt 279 30 = some (.invokestatic 109, 3, (232, 1, 0, 0), 401) := rfl
theorem s279_30 {c : Nat → List AV → SS → Option Out} {l0 l1 l2 : Option AV} {a0 : Int32} {L2 : List (Nat × AV)} {S : SS} : ev c 279 30 [l0, l1, l2] L2 [aI a0] S = ck (c 232 [aI a0] S) (fun v S' => ev c 279 33 [l0, l1, l2] L2 (v.toList ++ []) S') := ev_call i279_30 rfl
theorem i279_33 : insAt 279 33 = some (.aload_n 0, 1, (0, 0, 0, 0), 0) := rfl
theorem s279_33 {c : Nat → List AV → SS → Option Out} {l1 l2 : Option AV} {o : OId} {L2 : List (Nat × AV)} {St : List AV} {S : SS} : ev c 279 33 [some (aR o), l1, l2] L2 St S = ev c 279 34 [some (aR o), l1, l2] L2 (aR o :: St) S := ev_go i279_33 rfl
theorem i279_34 : insAt 279 34 = some (.aload_n 0, 1, (0, 0, 0, 0), 0) := rfl
theorem s279_34 {c : Nat → List AV → SS → Option Out} {l1 l2 : Option AV} {o : OId} {L2 : List (Nat × AV)} {St : List AV} {S : SS} : ev c 279 34 [some (aR o), l1, l2] L2 St S = ev c 279 35 [some (aR o), l1, l2] L2 (aR o :: St) S := ev_go i279_34 rfl
theorem i279_35 : insAt 279 35 = some (.iload_n 1, 1, (0, 0, 0, 0), 0) := rfl
theorem s279_35 {c : Nat → List AV → SS → Option Out} {l0 l2 : Option AV} {x : Int32} {L2 : List (Nat × AV)} {St : List AV} {S : SS} : ev c 279 35 [l0, some (aI x), l2] L2 St S = ev c 279 36 [l0, some (aI x), l2] L2 (aI x :: St) S := ev_go i279_35 rfl
theorem i279_36 : insAt 279 36 = some (.invokevirtual 173, 3, (253, 1, 2, 12), 414) := rfl
theorem s279_36 {c : Nat → List AV → SS → Option Out} {l0 l1 l2 : Option AV} {t0 t1 : AV} {a0 : Int32} {j t : Nat} {L2 : List (Nat × AV)} {S : SS} : ev c 279 36 [l0, l1, l2] L2 [aI a0, aR (12, j, t), t0, t1] S = ck (c 253 [aR (12, j, t), aI a0] S) (fun v S' => ev c 279 39 [l0, l1, l2] L2 (v.toList ++ [t0, t1]) S') := ev_call i279_36 rfl
theorem i279_39 : insAt 279 39 = some (.aload_n 0, 1, (0, 0, 0, 0), 0) := rfl
theorem s279_39 {c : Nat → List AV → SS → Option Out} {l1 l2 : Option AV} {o : OId} {L2 : List (Nat × AV)} {St : List AV} {S : SS} : ev c 279 39 [some (aR o), l1, l2] L2 St S = ev c 279 40 [some (aR o), l1, l2] L2 (aR o :: St) S := ev_go i279_39 rfl
theorem i279_40 : insAt 279 40 = some (.iload_n 2, 1, (0, 0, 0, 0), 0) := rfl
theorem s279_40 {c : Nat → List AV → SS → Option Out} {l0 l1 : Option AV} {x : Int32} {L2 : List (Nat × AV)} {St : List AV} {S : SS} : ev c 279 40 [l0, l1, some (aI x)] L2 St S = ev c 279 41 [l0, l1, some (aI x)] L2 (aI x :: St) S := ev_go i279_40 rfl
theorem i279_41 : insAt 279 41 = some (.invokevirtual 173, 3, (253, 1, 2, 12), 414) := rfl
theorem s279_41 {c : Nat → List AV → SS → Option Out} {l0 l1 l2 : Option AV} {t0 t1 t2 : AV} {a0 : Int32} {j t : Nat} {L2 : List (Nat × AV)} {S : SS} : ev c 279 41 [l0, l1, l2] L2 [aI a0, aR (12, j, t), t0, t1, t2] S = ck (c 253 [aR (12, j, t), aI a0] S) (fun v S' => ev c 279 44 [l0, l1, l2] L2 (v.toList ++ [t0, t1, t2]) S') := ev_call i279_41 rfl
theorem i279_44 : insAt 279 44 = some (.invokevirtual 112, 3, (240, 2, 2, 12), 407) := rfl
theorem s279_44 {c : Nat → List AV → SS → Option Out} {l0 l1 l2 : Option AV} {t0 : AV} {a0 : Int32} {a1 : Int32} {j t : Nat} {L2 : List (Nat × AV)} {S : SS} : ev c 279 44 [l0, l1, l2] L2 [aI a1, aI a0, aR (12, j, t), t0] S = ck (c 240 [aR (12, j, t), aI a0, aI a1] S) (fun v S' => ev c 279 47 [l0, l1, l2] L2 (v.toList ++ [t0]) S') := ev_call i279_44 rfl
theorem i279_47 : insAt 279 47 = some (.isub, 1, (0, 0, 0, 0), 0) := rfl
theorem s279_47 {c : Nat → List AV → SS → Option Out} {l0 l1 l2 : Option AV} {x y : Int32} {L2 : List (Nat × AV)} {St : List AV} {S : SS} : ev c 279 47 [l0, l1, l2] L2 (aI y :: aI x :: St) S = ev c 279 48 [l0, l1, l2] L2 (aI (x - y) :: St) S := ev_go i279_47 rfl
theorem i279_48 : insAt 279 48 = some (.goto 4, 3, (0, 0, 0, 0), 0) := rfl
theorem s279_48 {c : Nat → List AV → SS → Option Out} {l0 l1 l2 : Option AV} {L2 : List (Nat × AV)} {St : List AV} {S : SS} : ev c 279 48 [l0, l1, l2] L2 St S = ev c 279 52 [l0, l1, l2] L2 St S := ev_go i279_48 rfl
theorem i279_51 : insAt 279 51 = some (.iconst 0, 1, (0, 0, 0, 0), 0) := rfl
theorem s279_51 {c : Nat → List AV → SS → Option Out} {l0 l1 l2 : Option AV} {L2 : List (Nat × AV)} {St : List AV} {S : SS} : ev c 279 51 [l0, l1, l2] L2 St S = ev c 279 52 [l0, l1, l2] L2 (aI 0 :: St) S := ev_go i279_51 rfl
theorem i279_52 : insAt 279 52 = some (.ireturn, 1, (0, 0, 0, 0), 0) := rfl
theorem s279_52 {c : Nat → List AV → SS → Option Out} {l0 l1 l2 : Option AV} {x : Int32} {L2 : List (Nat × AV)} {S : SS} : ev c 279 52 [l0, l1, l2] L2 [aI x] S = some (.inl (some (aI x)), S) := ev_end i279_52 rfl
theorem m279 {d : Nat} {o : OId} {a0 : Int32} {a1 : Int32} {S : SS} : evm (d + 1) 279 [aR o, aI a0, aI a1] S = ev (evm d) 279 0 [some (aR o), some (aI a0), some (aI a1)] [] [] S := evm_s (n := 3) rfl (Nat.le_of_ble_eq_true rfl) rfl rfl
/-! FrequencyOfficeModel.conflictsAt(III)I -/
theorem i280_0 : insAt 280 0 = some (.aload_n 0, 1, (0, 0, 0, 0), 0) := rfl
theorem s280_0 {c : Nat → List AV → SS → Option Out} {l1 l2 l3 : Option AV} {o : OId} {L2 : List (Nat × AV)} {St : List AV} {S : SS} : ev c 280 0 [some (aR o), l1, l2, l3] L2 St S = ev c 280 1 [some (aR o), l1, l2, l3] L2 (aR o :: St) S := ev_go i280_0 rfl
theorem i280_1 : insAt 280 1 = some (.iload_n 1, 1, (0, 0, 0, 0), 0) := rfl
theorem s280_1 {c : Nat → List AV → SS → Option Out} {l0 l2 l3 : Option AV} {x : Int32} {L2 : List (Nat × AV)} {St : List AV} {S : SS} : ev c 280 1 [l0, some (aI x), l2, l3] L2 St S = ev c 280 2 [l0, some (aI x), l2, l3] L2 (aI x :: St) S := ev_go i280_1 rfl
theorem i280_2 : insAt 280 2 = some (.iload_n 2, 1, (0, 0, 0, 0), 0) := rfl
theorem s280_2 {c : Nat → List AV → SS → Option Out} {l0 l1 l3 : Option AV} {x : Int32} {L2 : List (Nat × AV)} {St : List AV} {S : SS} : ev c 280 2 [l0, l1, some (aI x), l3] L2 St S = ev c 280 3 [l0, l1, some (aI x), l3] L2 (aI x :: St) S := ev_go i280_2 rfl
theorem i280_3 : insAt 280 3 = some (.invokestatic 158, 3, (224, 2, 0, 0), 387) := rfl
theorem s280_3 {c : Nat → List AV → SS → Option Out} {l0 l1 l2 l3 : Option AV} {t0 : AV} {a0 : Int32} {a1 : Int32} {L2 : List (Nat × AV)} {S : SS} : ev c 280 3 [l0, l1, l2, l3] L2 [aI a1, aI a0, t0] S = ck (c 224 [aI a0, aI a1] S) (fun v S' => ev c 280 6 [l0, l1, l2, l3] L2 (v.toList ++ [t0]) S') := ev_call i280_3 rfl
theorem i280_6 : insAt 280 6 = some (.ifCond .eq 17, 3, (0, 0, 0, 0), 0) := rfl
theorem s280_6 {c : Nat → List AV → SS → Option Out} {l0 l1 l2 l3 : Option AV} {x : Int32} {L2 : List (Nat × AV)} {St : List AV} {S : SS} : ev c 280 6 [l0, l1, l2, l3] L2 (aI x :: St) S = if x = 0 then ev c 280 23 [l0, l1, l2, l3] L2 St S else ev c 280 9 [l0, l1, l2, l3] L2 St S := ev_br i280_6 rfl
theorem i280_9 : insAt 280 9 = some (.iload_n 3, 1, (0, 0, 0, 0), 0) := rfl
theorem s280_9 {c : Nat → List AV → SS → Option Out} {l0 l1 l2 : Option AV} {x : Int32} {L2 : List (Nat × AV)} {St : List AV} {S : SS} : ev c 280 9 [l0, l1, l2, some (aI x)] L2 St S = ev c 280 10 [l0, l1, l2, some (aI x)] L2 (aI x :: St) S := ev_go i280_9 rfl
theorem i280_10 : insAt 280 10 = some (.iconst 0, 1, (0, 0, 0, 0), 0) := rfl
theorem s280_10 {c : Nat → List AV → SS → Option Out} {l0 l1 l2 l3 : Option AV} {L2 : List (Nat × AV)} {St : List AV} {S : SS} : ev c 280 10 [l0, l1, l2, l3] L2 St S = ev c 280 11 [l0, l1, l2, l3] L2 (aI 0 :: St) S := ev_go i280_10 rfl
theorem i280_11 : insAt 280 11 = some (.bipush 7, 2, (0, 0, 0, 0), 0) := rfl
theorem s280_11 {c : Nat → List AV → SS → Option Out} {l0 l1 l2 l3 : Option AV} {L2 : List (Nat × AV)} {St : List AV} {S : SS} : ev c 280 11 [l0, l1, l2, l3] L2 St S = ev c 280 13 [l0, l1, l2, l3] L2 (aI 7 :: St) S := ev_go i280_11 rfl
theorem i280_13 : insAt 280 13 = some (.invokestatic 154, 3, (225, 3, 0, 0), 388) := rfl
theorem s280_13 {c : Nat → List AV → SS → Option Out} {l0 l1 l2 l3 : Option AV} {t0 : AV} {a0 : Int32} {a1 : Int32} {a2 : Int32} {L2 : List (Nat × AV)} {S : SS} : ev c 280 13 [l0, l1, l2, l3] L2 [aI a2, aI a1, aI a0, t0] S = ck (c 225 [aI a0, aI a1, aI a2] S) (fun v S' => ev c 280 16 [l0, l1, l2, l3] L2 (v.toList ++ [t0]) S') := ev_call i280_13 rfl
theorem i280_16 : insAt 280 16 = some (.ifCond .eq 7, 3, (0, 0, 0, 0), 0) := rfl
theorem s280_16 {c : Nat → List AV → SS → Option Out} {l0 l1 l2 l3 : Option AV} {x : Int32} {L2 : List (Nat × AV)} {St : List AV} {S : SS} : ev c 280 16 [l0, l1, l2, l3] L2 (aI x :: St) S = if x = 0 then ev c 280 23 [l0, l1, l2, l3] L2 St S else ev c 280 19 [l0, l1, l2, l3] L2 St S := ev_br i280_16 rfl
theorem i280_19 : insAt 280 19 = some (.iconst 1, 1, (0, 0, 0, 0), 0) := rfl
theorem s280_19 {c : Nat → List AV → SS → Option Out} {l0 l1 l2 l3 : Option AV} {L2 : List (Nat × AV)} {St : List AV} {S : SS} : ev c 280 19 [l0, l1, l2, l3] L2 St S = ev c 280 20 [l0, l1, l2, l3] L2 (aI 1 :: St) S := ev_go i280_19 rfl
theorem i280_20 : insAt 280 20 = some (.goto 4, 3, (0, 0, 0, 0), 0) := rfl
theorem s280_20 {c : Nat → List AV → SS → Option Out} {l0 l1 l2 l3 : Option AV} {L2 : List (Nat × AV)} {St : List AV} {S : SS} : ev c 280 20 [l0, l1, l2, l3] L2 St S = ev c 280 24 [l0, l1, l2, l3] L2 St S := ev_go i280_20 rfl
theorem i280_23 : insAt 280 23 = some (.iconst 0, 1, (0, 0, 0, 0), 0) := rfl
theorem s280_23 {c : Nat → List AV → SS → Option Out} {l0 l1 l2 l3 : Option AV} {L2 : List (Nat × AV)} {St : List AV} {S : SS} : ev c 280 23 [l0, l1, l2, l3] L2 St S = ev c 280 24 [l0, l1, l2, l3] L2 (aI 0 :: St) S := ev_go i280_23 rfl
theorem i280_24 : insAt 280 24 = some (.invokevirtual 176, 3, (256, 1, 2, 12), 415) := rfl
theorem s280_24 {c : Nat → List AV → SS → Option Out} {l0 l1 l2 l3 : Option AV} {a0 : Int32} {j t : Nat} {L2 : List (Nat × AV)} {S : SS} : ev c 280 24 [l0, l1, l2, l3] L2 [aI a0, aR (12, j, t)] S = ck (c 256 [aR (12, j, t), aI a0] S) (fun v S' => ev c 280 27 [l0, l1, l2, l3] L2 (v.toList ++ []) S') := ev_call i280_24 rfl
theorem i280_27 : insAt 280 27 = some (.ifCond .le 7, 3, (0, 0, 0, 0), 0) := rfl
theorem s280_27 {c : Nat → List AV → SS → Option Out} {l0 l1 l2 l3 : Option AV} {x : Int32} {L2 : List (Nat × AV)} {St : List AV} {S : SS} : ev c 280 27 [l0, l1, l2, l3] L2 (aI x :: St) S = if x ≤ 0 then ev c 280 34 [l0, l1, l2, l3] L2 St S else ev c 280 30 [l0, l1, l2, l3] L2 St S := ev_br i280_27 rfl
theorem i280_30 : insAt 280 30 = some (.iconst 0, 1, (0, 0, 0, 0), 0) := rfl
theorem s280_30 {c : Nat → List AV → SS → Option Out} {l0 l1 l2 l3 : Option AV} {L2 : List (Nat × AV)} {St : List AV} {S : SS} : ev c 280 30 [l0, l1, l2, l3] L2 St S = ev c 280 31 [l0, l1, l2, l3] L2 (aI 0 :: St) S := ev_go i280_30 rfl
theorem i280_31 : insAt 280 31 = some (.goto 10, 3, (0, 0, 0, 0), 0) := rfl
theorem s280_31 {c : Nat → List AV → SS → Option Out} {l0 l1 l2 l3 : Option AV} {L2 : List (Nat × AV)} {St : List AV} {S : SS} : ev c 280 31 [l0, l1, l2, l3] L2 St S = ev c 280 41 [l0, l1, l2, l3] L2 St S := ev_go i280_31 rfl
theorem i280_34 : insAt 280 34 = some (.aload_n 0, 1, (0, 0, 0, 0), 0) := rfl
theorem s280_34 {c : Nat → List AV → SS → Option Out} {l1 l2 l3 : Option AV} {o : OId} {L2 : List (Nat × AV)} {St : List AV} {S : SS} : ev c 280 34 [some (aR o), l1, l2, l3] L2 St S = ev c 280 35 [some (aR o), l1, l2, l3] L2 (aR o :: St) S := ev_go i280_34 rfl
theorem i280_35 : insAt 280 35 = some (.iload_n 1, 1, (0, 0, 0, 0), 0) := rfl
theorem s280_35 {c : Nat → List AV → SS → Option Out} {l0 l2 l3 : Option AV} {x : Int32} {L2 : List (Nat × AV)} {St : List AV} {S : SS} : ev c 280 35 [l0, some (aI x), l2, l3] L2 St S = ev c 280 36 [l0, some (aI x), l2, l3] L2 (aI x :: St) S := ev_go i280_35 rfl
theorem i280_36 : insAt 280 36 = some (.iload_n 2, 1, (0, 0, 0, 0), 0) := rfl
theorem s280_36 {c : Nat → List AV → SS → Option Out} {l0 l1 l3 : Option AV} {x : Int32} {L2 : List (Nat × AV)} {St : List AV} {S : SS} : ev c 280 36 [l0, l1, some (aI x), l3] L2 St S = ev c 280 37 [l0, l1, some (aI x), l3] L2 (aI x :: St) S := ev_go i280_36 rfl
theorem i280_37 : insAt 280 37 = some (.iload_n 3, 1, (0, 0, 0, 0), 0) := rfl
theorem s280_37 {c : Nat → List AV → SS → Option Out} {l0 l1 l2 : Option AV} {x : Int32} {L2 : List (Nat × AV)} {St : List AV} {S : SS} : ev c 280 37 [l0, l1, l2, some (aI x)] L2 St S = ev c 280 38 [l0, l1, l2, some (aI x)] L2 (aI x :: St) S := ev_go i280_37 rfl
theorem i280_38 : insAt 280 38 = some (.invokevirtual 170, 3, (251, 3, 2, 12), 413) := rfl
theorem s280_38 {c : Nat → List AV → SS → Option Out} {l0 l1 l2 l3 : Option AV} {a0 : Int32} {a1 : Int32} {a2 : Int32} {j t : Nat} {L2 : List (Nat × AV)} {S : SS} : ev c 280 38 [l0, l1, l2, l3] L2 [aI a2, aI a1, aI a0, aR (12, j, t)] S = ck (c 251 [aR (12, j, t), aI a0, aI a1, aI a2] S) (fun v S' => ev c 280 41 [l0, l1, l2, l3] L2 (v.toList ++ []) S') := ev_call i280_38 rfl
theorem i280_41 : insAt 280 41 = some (.ireturn, 1, (0, 0, 0, 0), 0) := rfl
theorem s280_41 {c : Nat → List AV → SS → Option Out} {l0 l1 l2 l3 : Option AV} {x : Int32} {L2 : List (Nat × AV)} {S : SS} : ev c 280 41 [l0, l1, l2, l3] L2 [aI x] S = some (.inl (some (aI x)), S) := ev_end i280_41 rfl
theorem m280 {d : Nat} {o : OId} {a0 : Int32} {a1 : Int32} {a2 : Int32} {S : SS} : evm (d + 1) 280 [aR o, aI a0, aI a1, aI a2] S = ev (evm d) 280 0 [some (aR o), some (aI a0), some (aI a1), some (aI a2)] [] [] S := evm_s (n := 4) rfl (Nat.le_of_ble_eq_true rfl) rfl rfl
/-! FrequencyOfficeModel.disturbanceAt(III)I -/
theorem i281_0 : insAt 281 0 = some (.aload_n 0, 1, (0, 0, 0, 0), 0) := rfl
theorem s281_0 {c : Nat → List AV → SS → Option Out} {l1 l2 l3 : Option AV} {o : OId} {L2 : List (Nat × AV)} {St : List AV} {S : SS} : ev c 281 0 [some (aR o), l1, l2, l3] L2 St S = ev c 281 1 [some (aR o), l1, l2, l3] L2 (aR o :: St) S := ev_go i281_0 rfl
theorem i281_1 : insAt 281 1 = some (.iload_n 1, 1, (0, 0, 0, 0), 0) := rfl
theorem s281_1 {c : Nat → List AV → SS → Option Out} {l0 l2 l3 : Option AV} {x : Int32} {L2 : List (Nat × AV)} {St : List AV} {S : SS} : ev c 281 1 [l0, some (aI x), l2, l3] L2 St S = ev c 281 2 [l0, some (aI x), l2, l3] L2 (aI x :: St) S := ev_go i281_1 rfl
theorem i281_2 : insAt 281 2 = some (.iload_n 2, 1, (0, 0, 0, 0), 0) := rfl
theorem s281_2 {c : Nat → List AV → SS → Option Out} {l0 l1 l3 : Option AV} {x : Int32} {L2 : List (Nat × AV)} {St : List AV} {S : SS} : ev c 281 2 [l0, l1, some (aI x), l3] L2 St S = ev c 281 3 [l0, l1, some (aI x), l3] L2 (aI x :: St) S := ev_go i281_2 rfl
theorem i281_3 : insAt 281 3 = some (.invokestatic 158, 3, (224, 2, 0, 0), 387) := rfl
theorem s281_3 {c : Nat → List AV → SS → Option Out} {l0 l1 l2 l3 : Option AV} {t0 : AV} {a0 : Int32} {a1 : Int32} {L2 : List (Nat × AV)} {S : SS} : ev c 281 3 [l0, l1, l2, l3] L2 [aI a1, aI a0, t0] S = ck (c 224 [aI a0, aI a1] S) (fun v S' => ev c 281 6 [l0, l1, l2, l3] L2 (v.toList ++ [t0]) S') := ev_call i281_3 rfl
theorem i281_6 : insAt 281 6 = some (.ifCond .eq 17, 3, (0, 0, 0, 0), 0) := rfl
theorem s281_6 {c : Nat → List AV → SS → Option Out} {l0 l1 l2 l3 : Option AV} {x : Int32} {L2 : List (Nat × AV)} {St : List AV} {S : SS} : ev c 281 6 [l0, l1, l2, l3] L2 (aI x :: St) S = if x = 0 then ev c 281 23 [l0, l1, l2, l3] L2 St S else ev c 281 9 [l0, l1, l2, l3] L2 St S := ev_br i281_6 rfl
theorem i281_9 : insAt 281 9 = some (.iload_n 3, 1, (0, 0, 0, 0), 0) := rfl
theorem s281_9 {c : Nat → List AV → SS → Option Out} {l0 l1 l2 : Option AV} {x : Int32} {L2 : List (Nat × AV)} {St : List AV} {S : SS} : ev c 281 9 [l0, l1, l2, some (aI x)] L2 St S = ev c 281 10 [l0, l1, l2, some (aI x)] L2 (aI x :: St) S := ev_go i281_9 rfl
theorem i281_10 : insAt 281 10 = some (.iconst 0, 1, (0, 0, 0, 0), 0) := rfl
theorem s281_10 {c : Nat → List AV → SS → Option Out} {l0 l1 l2 l3 : Option AV} {L2 : List (Nat × AV)} {St : List AV} {S : SS} : ev c 281 10 [l0, l1, l2, l3] L2 St S = ev c 281 11 [l0, l1, l2, l3] L2 (aI 0 :: St) S := ev_go i281_10 rfl
theorem i281_11 : insAt 281 11 = some (.bipush 7, 2, (0, 0, 0, 0), 0) := rfl
theorem s281_11 {c : Nat → List AV → SS → Option Out} {l0 l1 l2 l3 : Option AV} {L2 : List (Nat × AV)} {St : List AV} {S : SS} : ev c 281 11 [l0, l1, l2, l3] L2 St S = ev c 281 13 [l0, l1, l2, l3] L2 (aI 7 :: St) S := ev_go i281_11 rfl
theorem i281_13 : insAt 281 13 = some (.invokestatic 154, 3, (225, 3, 0, 0), 388) := rfl
theorem s281_13 {c : Nat → List AV → SS → Option Out} {l0 l1 l2 l3 : Option AV} {t0 : AV} {a0 : Int32} {a1 : Int32} {a2 : Int32} {L2 : List (Nat × AV)} {S : SS} : ev c 281 13 [l0, l1, l2, l3] L2 [aI a2, aI a1, aI a0, t0] S = ck (c 225 [aI a0, aI a1, aI a2] S) (fun v S' => ev c 281 16 [l0, l1, l2, l3] L2 (v.toList ++ [t0]) S') := ev_call i281_13 rfl
theorem i281_16 : insAt 281 16 = some (.ifCond .eq 7, 3, (0, 0, 0, 0), 0) := rfl
theorem s281_16 {c : Nat → List AV → SS → Option Out} {l0 l1 l2 l3 : Option AV} {x : Int32} {L2 : List (Nat × AV)} {St : List AV} {S : SS} : ev c 281 16 [l0, l1, l2, l3] L2 (aI x :: St) S = if x = 0 then ev c 281 23 [l0, l1, l2, l3] L2 St S else ev c 281 19 [l0, l1, l2, l3] L2 St S := ev_br i281_16 rfl
theorem i281_19 : insAt 281 19 = some (.iconst 1, 1, (0, 0, 0, 0), 0) := rfl
theorem s281_19 {c : Nat → List AV → SS → Option Out} {l0 l1 l2 l3 : Option AV} {L2 : List (Nat × AV)} {St : List AV} {S : SS} : ev c 281 19 [l0, l1, l2, l3] L2 St S = ev c 281 20 [l0, l1, l2, l3] L2 (aI 1 :: St) S := ev_go i281_19 rfl
theorem i281_20 : insAt 281 20 = some (.goto 4, 3, (0, 0, 0, 0), 0) := rfl
theorem s281_20 {c : Nat → List AV → SS → Option Out} {l0 l1 l2 l3 : Option AV} {L2 : List (Nat × AV)} {St : List AV} {S : SS} : ev c 281 20 [l0, l1, l2, l3] L2 St S = ev c 281 24 [l0, l1, l2, l3] L2 St S := ev_go i281_20 rfl
theorem i281_23 : insAt 281 23 = some (.iconst 0, 1, (0, 0, 0, 0), 0) := rfl
theorem s281_23 {c : Nat → List AV → SS → Option Out} {l0 l1 l2 l3 : Option AV} {L2 : List (Nat × AV)} {St : List AV} {S : SS} : ev c 281 23 [l0, l1, l2, l3] L2 St S = ev c 281 24 [l0, l1, l2, l3] L2 (aI 0 :: St) S := ev_go i281_23 rfl
theorem i281_24 : insAt 281 24 = some (.invokevirtual 176, 3, (256, 1, 2, 12), 415) := rfl
theorem s281_24 {c : Nat → List AV → SS → Option Out} {l0 l1 l2 l3 : Option AV} {a0 : Int32} {j t : Nat} {L2 : List (Nat × AV)} {S : SS} : ev c 281 24 [l0, l1, l2, l3] L2 [aI a0, aR (12, j, t)] S = ck (c 256 [aR (12, j, t), aI a0] S) (fun v S' => ev c 281 27 [l0, l1, l2, l3] L2 (v.toList ++ []) S') := ev_call i281_24 rfl
theorem i281_27 : insAt 281 27 = some (.ifCond .le 7, 3, (0, 0, 0, 0), 0) := rfl
theorem s281_27 {c : Nat → List AV → SS → Option Out} {l0 l1 l2 l3 : Option AV} {x : Int32} {L2 : List (Nat × AV)} {St : List AV} {S : SS} : ev c 281 27 [l0, l1, l2, l3] L2 (aI x :: St) S = if x ≤ 0 then ev c 281 34 [l0, l1, l2, l3] L2 St S else ev c 281 30 [l0, l1, l2, l3] L2 St S := ev_br i281_27 rfl
theorem i281_30 : insAt 281 30 = some (.iconst 0, 1, (0, 0, 0, 0), 0) := rfl
theorem s281_30 {c : Nat → List AV → SS → Option Out} {l0 l1 l2 l3 : Option AV} {L2 : List (Nat × AV)} {St : List AV} {S : SS} : ev c 281 30 [l0, l1, l2, l3] L2 St S = ev c 281 31 [l0, l1, l2, l3] L2 (aI 0 :: St) S := ev_go i281_30 rfl
theorem i281_31 : insAt 281 31 = some (.goto 11, 3, (0, 0, 0, 0), 0) := rfl
theorem s281_31 {c : Nat → List AV → SS → Option Out} {l0 l1 l2 l3 : Option AV} {L2 : List (Nat × AV)} {St : List AV} {S : SS} : ev c 281 31 [l0, l1, l2, l3] L2 St S = ev c 281 42 [l0, l1, l2, l3] L2 St S := ev_go i281_31 rfl
theorem i281_34 : insAt 281 34 = some (.aload_n 0, 1, (0, 0, 0, 0), 0) := rfl
theorem s281_34 {c : Nat → List AV → SS → Option Out} {l1 l2 l3 : Option AV} {o : OId} {L2 : List (Nat × AV)} {St : List AV} {S : SS} : ev c 281 34 [some (aR o), l1, l2, l3] L2 St S = ev c 281 35 [some (aR o), l1, l2, l3] L2 (aR o :: St) S := ev_go i281_34 rfl
theorem i281_35 : insAt 281 35 = some (.iload_n 1, 1, (0, 0, 0, 0), 0) := rfl
theorem s281_35 {c : Nat → List AV → SS → Option Out} {l0 l2 l3 : Option AV} {x : Int32} {L2 : List (Nat × AV)} {St : List AV} {S : SS} : ev c 281 35 [l0, some (aI x), l2, l3] L2 St S = ev c 281 36 [l0, some (aI x), l2, l3] L2 (aI x :: St) S := ev_go i281_35 rfl
theorem i281_36 : insAt 281 36 = some (.iload_n 2, 1, (0, 0, 0, 0), 0) := rfl
theorem s281_36 {c : Nat → List AV → SS → Option Out} {l0 l1 l3 : Option AV} {x : Int32} {L2 : List (Nat × AV)} {St : List AV} {S : SS} : ev c 281 36 [l0, l1, some (aI x), l3] L2 St S = ev c 281 37 [l0, l1, some (aI x), l3] L2 (aI x :: St) S := ev_go i281_36 rfl
theorem i281_37 : insAt 281 37 = some (.iload_n 3, 1, (0, 0, 0, 0), 0) := rfl
theorem s281_37 {c : Nat → List AV → SS → Option Out} {l0 l1 l2 : Option AV} {x : Int32} {L2 : List (Nat × AV)} {St : List AV} {S : SS} : ev c 281 37 [l0, l1, l2, some (aI x)] L2 St S = ev c 281 38 [l0, l1, l2, some (aI x)] L2 (aI x :: St) S := ev_go i281_37 rfl
theorem i281_38 : insAt 281 38 = some (.iconst (-1), 1, (0, 0, 0, 0), 0) := rfl
theorem s281_38 {c : Nat → List AV → SS → Option Out} {l0 l1 l2 l3 : Option AV} {L2 : List (Nat × AV)} {St : List AV} {S : SS} : ev c 281 38 [l0, l1, l2, l3] L2 St S = ev c 281 39 [l0, l1, l2, l3] L2 (aI (-1) :: St) S := ev_go i281_38 rfl
theorem i281_39 : insAt 281 39 = some (.invokevirtual 125, 3, (238, 4, 2, 12), 399) := rfl
theorem s281_39 {c : Nat → List AV → SS → Option Out} {l0 l1 l2 l3 : Option AV} {a0 : Int32} {a1 : Int32} {a2 : Int32} {a3 : Int32} {j t : Nat} {L2 : List (Nat × AV)} {S : SS} : ev c 281 39 [l0, l1, l2, l3] L2 [aI a3, aI a2, aI a1, aI a0, aR (12, j, t)] S = ck (c 238 [aR (12, j, t), aI a0, aI a1, aI a2, aI a3] S) (fun v S' => ev c 281 42 [l0, l1, l2, l3] L2 (v.toList ++ []) S') := ev_call i281_39 rfl
theorem i281_42 : insAt 281 42 = some (.ireturn, 1, (0, 0, 0, 0), 0) := rfl
theorem s281_42 {c : Nat → List AV → SS → Option Out} {l0 l1 l2 l3 : Option AV} {x : Int32} {L2 : List (Nat × AV)} {S : SS} : ev c 281 42 [l0, l1, l2, l3] L2 [aI x] S = some (.inl (some (aI x)), S) := ev_end i281_42 rfl
theorem m281 {d : Nat} {o : OId} {a0 : Int32} {a1 : Int32} {a2 : Int32} {S : SS} : evm (d + 1) 281 [aR o, aI a0, aI a1, aI a2] S = ev (evm d) 281 0 [some (aR o), some (aI a0), some (aI a1), some (aI a2)] [] [] S := evm_s (n := 4) rfl (Nat.le_of_ble_eq_true rfl) rfl rfl
/-! FrequencyOfficeModel.meanDisturbance()F -/
theorem i282_0 : insAt 282 0 = some (.aload_n 0, 1, (0, 0, 0, 0), 0) := rfl
theorem s282_0 {c : Nat → List AV → SS → Option Out} {l1 l2 : Option AV} {o : OId} {L2 : List (Nat × AV)} {St : List AV} {S : SS} : ev c 282 0 [some (aR o), l1, l2] L2 St S = ev c 282 1 [some (aR o), l1, l2] L2 (aR o :: St) S := ev_go i282_0 rfl
theorem i282_1 : insAt 282 1 = some (.aload_n 0, 1, (0, 0, 0, 0), 0) := rfl
theorem s282_1 {c : Nat → List AV → SS → Option Out} {l1 l2 : Option AV} {o : OId} {L2 : List (Nat × AV)} {St : List AV} {S : SS} : ev c 282 1 [some (aR o), l1, l2] L2 St S = ev c 282 2 [some (aR o), l1, l2] L2 (aR o :: St) S := ev_go i282_1 rfl
theorem i282_2 : insAt 282 2 = some (.invokevirtual 180, 3, (261, 0, 2, 12), 416) := rfl
theorem s282_2 {c : Nat → List AV → SS → Option Out} {l0 l1 l2 : Option AV} {t0 : AV} {j t : Nat} {L2 : List (Nat × AV)} {S : SS} : ev c 282 2 [l0, l1, l2] L2 [aR (12, j, t), t0] S = ck (c 261 [aR (12, j, t)] S) (fun v S' => ev c 282 5 [l0, l1, l2] L2 (v.toList ++ [t0]) S') := ev_call i282_2 rfl
theorem i282_5 : insAt 282 5 = some (.ifCond .le 7, 3, (0, 0, 0, 0), 0) := rfl
theorem s282_5 {c : Nat → List AV → SS → Option Out} {l0 l1 l2 : Option AV} {x : Int32} {L2 : List (Nat × AV)} {St : List AV} {S : SS} : ev c 282 5 [l0, l1, l2] L2 (aI x :: St) S = if x ≤ 0 then ev c 282 12 [l0, l1, l2] L2 St S else ev c 282 8 [l0, l1, l2] L2 St S := ev_br i282_5 rfl
theorem i282_8 : insAt 282 8 = some (.iconst 1, 1, (0, 0, 0, 0), 0) := rfl
theorem s282_8 {c : Nat → List AV → SS → Option Out} {l0 l1 l2 : Option AV} {L2 : List (Nat × AV)} {St : List AV} {S : SS} : ev c 282 8 [l0, l1, l2] L2 St S = ev c 282 9 [l0, l1, l2] L2 (aI 1 :: St) S := ev_go i282_8 rfl
theorem i282_9 : insAt 282 9 = some (.goto 4, 3, (0, 0, 0, 0), 0) := rfl
theorem s282_9 {c : Nat → List AV → SS → Option Out} {l0 l1 l2 : Option AV} {L2 : List (Nat × AV)} {St : List AV} {S : SS} : ev c 282 9 [l0, l1, l2] L2 St S = ev c 282 13 [l0, l1, l2] L2 St S := ev_go i282_9 rfl
theorem i282_12 : insAt 282 12 = some (.iconst 0, 1, (0, 0, 0, 0), 0) := rfl
theorem s282_12 {c : Nat → List AV → SS → Option Out} {l0 l1 l2 : Option AV} {L2 : List (Nat × AV)} {St : List AV} {S : SS} : ev c 282 12 [l0, l1, l2] L2 St S = ev c 282 13 [l0, l1, l2] L2 (aI 0 :: St) S := ev_go i282_12 rfl
theorem i282_13 : insAt 282 13 = some (.invokevirtual 176, 3, (256, 1, 2, 12), 415) := rfl
theorem s282_13 {c : Nat → List AV → SS → Option Out} {l0 l1 l2 : Option AV} {a0 : Int32} {j t : Nat} {L2 : List (Nat × AV)} {S : SS} : ev c 282 13 [l0, l1, l2] L2 [aI a0, aR (12, j, t)] S = ck (c 256 [aR (12, j, t), aI a0] S) (fun v S' => ev c 282 16 [l0, l1, l2] L2 (v.toList ++ []) S') := ev_call i282_13 rfl
theorem i282_16 : insAt 282 16 = some (.ifCond .le 5, 3, (0, 0, 0, 0), 0) := rfl
theorem s282_16 {c : Nat → List AV → SS → Option Out} {l0 l1 l2 : Option AV} {x : Int32} {L2 : List (Nat × AV)} {St : List AV} {S : SS} : ev c 282 16 [l0, l1, l2] L2 (aI x :: St) S = if x ≤ 0 then ev c 282 21 [l0, l1, l2] L2 St S else ev c 282 19 [l0, l1, l2] L2 St S := ev_br i282_16 rfl
theorem i282_19 : insAt 282 19 = some (.fconst 0, 1, (0, 0, 0, 0), 0) := rfl
theorem s282_19 {c : Nat → List AV → SS → Option Out} {l0 l1 l2 : Option AV} {L2 : List (Nat × AV)} {St : List AV} {S : SS} : ev c 282 19 [l0, l1, l2] L2 St S = ev c 282 20 [l0, l1, l2] L2 (aF 0 :: St) S := ev_go i282_19 rfl
theorem i282_20 : insAt 282 20 = some (.freturn, 1, (0, 0, 0, 0), 0) := rfl
theorem s282_20 {c : Nat → List AV → SS → Option Out} {l0 l1 l2 : Option AV} {x : UInt32} {L2 : List (Nat × AV)} {S : SS} : ev c 282 20 [l0, l1, l2] L2 [aF x] S = some (.inl (some (aF x)), S) := ev_end i282_20 rfl
theorem i282_21 : insAt 282 21 = some (.iconst 0, 1, (0, 0, 0, 0), 0) := rfl
theorem s282_21 {c : Nat → List AV → SS → Option Out} {l0 l1 l2 : Option AV} {L2 : List (Nat × AV)} {St : List AV} {S : SS} : ev c 282 21 [l0, l1, l2] L2 St S = ev c 282 22 [l0, l1, l2] L2 (aI 0 :: St) S := ev_go i282_21 rfl
theorem i282_22 : insAt 282 22 = some (.istore_n 1, 1, (0, 0, 0, 0), 0) := rfl
theorem s282_22 {c : Nat → List AV → SS → Option Out} {l0 l1 l2 : Option AV} {x : Int32} {L2 : List (Nat × AV)} {St : List AV} {S : SS} : ev c 282 22 [l0, l1, l2] L2 (aI x :: St) S = ev c 282 23 [l0, some (aI x), l2] (kil L2 1) St S := ev_go i282_22 rfl
theorem i282_23 : insAt 282 23 = some (.iconst 0, 1, (0, 0, 0, 0), 0) := rfl
theorem s282_23 {c : Nat → List AV → SS → Option Out} {l0 l1 l2 : Option AV} {L2 : List (Nat × AV)} {St : List AV} {S : SS} : ev c 282 23 [l0, l1, l2] L2 St S = ev c 282 24 [l0, l1, l2] L2 (aI 0 :: St) S := ev_go i282_23 rfl
theorem i282_24 : insAt 282 24 = some (.istore_n 2, 1, (0, 0, 0, 0), 0) := rfl
theorem s282_24 {c : Nat → List AV → SS → Option Out} {l0 l1 l2 : Option AV} {x : Int32} {L2 : List (Nat × AV)} {St : List AV} {S : SS} : ev c 282 24 [l0, l1, l2] L2 (aI x :: St) S = ev c 282 25 [l0, l1, some (aI x)] (kil L2 2) St S := ev_go i282_24 rfl
theorem i282_25 : insAt 282 25 = some (.iload_n 2, 1, (0, 0, 0, 0), 0) := rfl
theorem s282_25 {c : Nat → List AV → SS → Option Out} {l0 l1 : Option AV} {x : Int32} {L2 : List (Nat × AV)} {St : List AV} {S : SS} : ev c 282 25 [l0, l1, some (aI x)] L2 St S = ev c 282 26 [l0, l1, some (aI x)] L2 (aI x :: St) S := ev_go i282_25 rfl
theorem i282_26 : insAt 282 26 = some (.aload_n 0, 1, (0, 0, 0, 0), 0) := rfl
theorem s282_26 {c : Nat → List AV → SS → Option Out} {l1 l2 : Option AV} {o : OId} {L2 : List (Nat × AV)} {St : List AV} {S : SS} : ev c 282 26 [some (aR o), l1, l2] L2 St S = ev c 282 27 [some (aR o), l1, l2] L2 (aR o :: St) S := ev_go i282_26 rfl
theorem i282_27 : insAt 282 27 = some (.getfield 7, 3, (12, 0, 0, 0), 364) := rfl
theorem s282_27 {c : Nat → List AV → SS → Option Out} {l0 l1 l2 : Option AV} {j t : Nat} {L2 : List (Nat × AV)} {St : List AV} {S : SS} : ev c 282 27 [l0, l1, l2] L2 (aR (12, j, t) :: St) S = ev c 282 30 [l0, l1, l2] L2 (S.2.2.1 (12, j, t) 0 :: St) S := ev_go i282_27 rfl
theorem i282_30 : insAt 282 30 = some (.bipush 7, 2, (0, 0, 0, 0), 0) := rfl
theorem s282_30 {c : Nat → List AV → SS → Option Out} {l0 l1 l2 : Option AV} {L2 : List (Nat × AV)} {St : List AV} {S : SS} : ev c 282 30 [l0, l1, l2] L2 St S = ev c 282 32 [l0, l1, l2] L2 (aI 7 :: St) S := ev_go i282_30 rfl
theorem i282_32 : insAt 282 32 = some (.iaload, 1, (0, 0, 0, 0), 0) := rfl
theorem s282_32 {c : Nat → List AV → SS → Option Out} {l0 l1 l2 : Option AV} {i : Int32} {o : OId} {L2 : List (Nat × AV)} {St : List AV} {S : SS} : ev c 282 32 [l0, l1, l2] L2 (aI i :: aR o :: St) S = kI o i (ev c 282 33 [l0, l1, l2] L2 (aI (agI S o i.toNatClampNeg) :: St) S) := ev_iaload i282_32
theorem i282_33 : insAt 282 33 = some (.if_icmp .ge 47, 3, (0, 0, 0, 0), 0) := rfl
theorem s282_33 {c : Nat → List AV → SS → Option Out} {l0 l1 l2 : Option AV} {x y : Int32} {L2 : List (Nat × AV)} {St : List AV} {S : SS} : ev c 282 33 [l0, l1, l2] L2 (aI y :: aI x :: St) S = if y ≤ x then ev c 282 80 [l0, l1, l2] L2 St S else ev c 282 36 [l0, l1, l2] L2 St S := ev_br i282_33 rfl
theorem i282_36 : insAt 282 36 = some (.iload_n 1, 1, (0, 0, 0, 0), 0) := rfl
theorem s282_36 {c : Nat → List AV → SS → Option Out} {l0 l2 : Option AV} {x : Int32} {L2 : List (Nat × AV)} {St : List AV} {S : SS} : ev c 282 36 [l0, some (aI x), l2] L2 St S = ev c 282 37 [l0, some (aI x), l2] L2 (aI x :: St) S := ev_go i282_36 rfl
theorem i282_37 : insAt 282 37 = some (.aload_n 0, 1, (0, 0, 0, 0), 0) := rfl
theorem s282_37 {c : Nat → List AV → SS → Option Out} {l1 l2 : Option AV} {o : OId} {L2 : List (Nat × AV)} {St : List AV} {S : SS} : ev c 282 37 [some (aR o), l1, l2] L2 St S = ev c 282 38 [some (aR o), l1, l2] L2 (aR o :: St) S := ev_go i282_37 rfl
theorem i282_38 : insAt 282 38 = some (.iload_n 2, 1, (0, 0, 0, 0), 0) := rfl
theorem s282_38 {c : Nat → List AV → SS → Option Out} {l0 l1 : Option AV} {x : Int32} {L2 : List (Nat × AV)} {St : List AV} {S : SS} : ev c 282 38 [l0, l1, some (aI x)] L2 St S = ev c 282 39 [l0, l1, some (aI x)] L2 (aI x :: St) S := ev_go i282_38 rfl
theorem i282_39 : insAt 282 39 = some (.invokevirtual 115, 3, (230, 1, 2, 12), 400) := rfl
theorem s282_39 {c : Nat → List AV → SS → Option Out} {l0 l1 l2 : Option AV} {t0 : AV} {a0 : Int32} {j t : Nat} {L2 : List (Nat × AV)} {S : SS} : ev c 282 39 [l0, l1, l2] L2 [aI a0, aR (12, j, t), t0] S = ck (c 230 [aR (12, j, t), aI a0] S) (fun v S' => ev c 282 42 [l0, l1, l2] L2 (v.toList ++ [t0]) S') := ev_call i282_39 rfl
theorem i282_42 : insAt 282 42 = some (.ifCond .eq 29, 3, (0, 0, 0, 0), 0) := rfl
theorem s282_42 {c : Nat → List AV → SS → Option Out} {l0 l1 l2 : Option AV} {x : Int32} {L2 : List (Nat × AV)} {St : List AV} {S : SS} : ev c 282 42 [l0, l1, l2] L2 (aI x :: St) S = if x = 0 then ev c 282 71 [l0, l1, l2] L2 St S else ev c 282 45 [l0, l1, l2] L2 St S := ev_br i282_42 rfl
theorem i282_45 : insAt 282 45 = some (.aload_n 0, 1, (0, 0, 0, 0), 0) := rfl
theorem s282_45 {c : Nat → List AV → SS → Option Out} {l1 l2 : Option AV} {o : OId} {L2 : List (Nat × AV)} {St : List AV} {S : SS} : ev c 282 45 [some (aR o), l1, l2] L2 St S = ev c 282 46 [some (aR o), l1, l2] L2 (aR o :: St) S := ev_go i282_45 rfl
theorem i282_46 : insAt 282 46 = some (.aload_n 0, 1, (0, 0, 0, 0), 0) := rfl
theorem s282_46 {c : Nat → List AV → SS → Option Out} {l1 l2 : Option AV} {o : OId} {L2 : List (Nat × AV)} {St : List AV} {S : SS} : ev c 282 46 [some (aR o), l1, l2] L2 St S = ev c 282 47 [some (aR o), l1, l2] L2 (aR o :: St) S := ev_go i282_46 rfl
theorem i282_47 : insAt 282 47 = some (.iload_n 2, 1, (0, 0, 0, 0), 0) := rfl
theorem s282_47 {c : Nat → List AV → SS → Option Out} {l0 l1 : Option AV} {x : Int32} {L2 : List (Nat × AV)} {St : List AV} {S : SS} : ev c 282 47 [l0, l1, some (aI x)] L2 St S = ev c 282 48 [l0, l1, some (aI x)] L2 (aI x :: St) S := ev_go i282_47 rfl
theorem i282_48 : insAt 282 48 = some (.iconst 1, 1, (0, 0, 0, 0), 0) := rfl
theorem s282_48 {c : Nat → List AV → SS → Option Out} {l0 l1 l2 : Option AV} {L2 : List (Nat × AV)} {St : List AV} {S : SS} : ev c 282 48 [l0, l1, l2] L2 St S = ev c 282 49 [l0, l1, l2] L2 (aI 1 :: St) S := ev_go i282_48 rfl
theorem i282_49 : insAt 282 49 = some (.invokevirtual 75, 3, (231, 2, 2, 12), 396) := rfl
theorem s282_49 {c : Nat → List AV → SS → Option Out} {l0 l1 l2 : Option AV} {t0 t1 : AV} {a0 : Int32} {a1 : Int32} {j t : Nat} {L2 : List (Nat × AV)} {S : SS} : ev c 282 49 [l0, l1, l2] L2 [aI a1, aI a0, aR (12, j, t), t0, t1] S = ck (c 231 [aR (12, j, t), aI a0, aI a1] S) (fun v S' => ev c 282 52 [l0, l1, l2] L2 (v.toList ++ [t0, t1]) S') := ev_call i282_49 rfl
theorem i282_52 : insAt 282 52 = some (.aload_n 0, 1, (0, 0, 0, 0), 0) := rfl
theorem s282_52 {c : Nat → List AV → SS → Option Out} {l1 l2 : Option AV} {o : OId} {L2 : List (Nat × AV)} {St : List AV} {S : SS} : ev c 282 52 [some (aR o), l1, l2] L2 St S = ev c 282 53 [some (aR o), l1, l2] L2 (aR o :: St) S := ev_go i282_52 rfl
theorem i282_53 : insAt 282 53 = some (.iload_n 2, 1, (0, 0, 0, 0), 0) := rfl
theorem s282_53 {c : Nat → List AV → SS → Option Out} {l0 l1 : Option AV} {x : Int32} {L2 : List (Nat × AV)} {St : List AV} {S : SS} : ev c 282 53 [l0, l1, some (aI x)] L2 St S = ev c 282 54 [l0, l1, some (aI x)] L2 (aI x :: St) S := ev_go i282_53 rfl
theorem i282_54 : insAt 282 54 = some (.iconst 2, 1, (0, 0, 0, 0), 0) := rfl
theorem s282_54 {c : Nat → List AV → SS → Option Out} {l0 l1 l2 : Option AV} {L2 : List (Nat × AV)} {St : List AV} {S : SS} : ev c 282 54 [l0, l1, l2] L2 St S = ev c 282 55 [l0, l1, l2] L2 (aI 2 :: St) S := ev_go i282_54 rfl
theorem i282_55 : insAt 282 55 = some (.invokevirtual 75, 3, (231, 2, 2, 12), 396) := rfl
theorem s282_55 {c : Nat → List AV → SS → Option Out} {l0 l1 l2 : Option AV} {t0 t1 t2 : AV} {a0 : Int32} {a1 : Int32} {j t : Nat} {L2 : List (Nat × AV)} {S : SS} : ev c 282 55 [l0, l1, l2] L2 [aI a1, aI a0, aR (12, j, t), t0, t1, t2] S = ck (c 231 [aR (12, j, t), aI a0, aI a1] S) (fun v S' => ev c 282 58 [l0, l1, l2] L2 (v.toList ++ [t0, t1, t2]) S') := ev_call i282_55 rfl
theorem i282_58 : insAt 282 58 = some (.aload_n 0, 1, (0, 0, 0, 0), 0) := rfl
theorem s282_58 {c : Nat → List AV → SS → Option Out} {l1 l2 : Option AV} {o : OId} {L2 : List (Nat × AV)} {St : List AV} {S : SS} : ev c 282 58 [some (aR o), l1, l2] L2 St S = ev c 282 59 [some (aR o), l1, l2] L2 (aR o :: St) S := ev_go i282_58 rfl
theorem i282_59 : insAt 282 59 = some (.iload_n 2, 1, (0, 0, 0, 0), 0) := rfl
theorem s282_59 {c : Nat → List AV → SS → Option Out} {l0 l1 : Option AV} {x : Int32} {L2 : List (Nat × AV)} {St : List AV} {S : SS} : ev c 282 59 [l0, l1, some (aI x)] L2 St S = ev c 282 60 [l0, l1, some (aI x)] L2 (aI x :: St) S := ev_go i282_59 rfl
theorem i282_60 : insAt 282 60 = some (.iconst 3, 1, (0, 0, 0, 0), 0) := rfl
theorem s282_60 {c : Nat → List AV → SS → Option Out} {l0 l1 l2 : Option AV} {L2 : List (Nat × AV)} {St : List AV} {S : SS} : ev c 282 60 [l0, l1, l2] L2 St S = ev c 282 61 [l0, l1, l2] L2 (aI 3 :: St) S := ev_go i282_60 rfl
theorem i282_61 : insAt 282 61 = some (.invokevirtual 75, 3, (231, 2, 2, 12), 396) := rfl
theorem s282_61 {c : Nat → List AV → SS → Option Out} {l0 l1 l2 : Option AV} {t0 t1 t2 t3 : AV} {a0 : Int32} {a1 : Int32} {j t : Nat} {L2 : List (Nat × AV)} {S : SS} : ev c 282 61 [l0, l1, l2] L2 [aI a1, aI a0, aR (12, j, t), t0, t1, t2, t3] S = ck (c 231 [aR (12, j, t), aI a0, aI a1] S) (fun v S' => ev c 282 64 [l0, l1, l2] L2 (v.toList ++ [t0, t1, t2, t3]) S') := ev_call i282_61 rfl
theorem i282_64 : insAt 282 64 = some (.iload_n 2, 1, (0, 0, 0, 0), 0) := rfl
theorem s282_64 {c : Nat → List AV → SS → Option Out} {l0 l1 : Option AV} {x : Int32} {L2 : List (Nat × AV)} {St : List AV} {S : SS} : ev c 282 64 [l0, l1, some (aI x)] L2 St S = ev c 282 65 [l0, l1, some (aI x)] L2 (aI x :: St) S := ev_go i282_64 rfl
theorem i282_65 : insAt 282 65 = some (.invokevirtual 125, 3, (238, 4, 2, 12), 399) := rfl
theorem s282_65 {c : Nat → List AV → SS → Option Out} {l0 l1 l2 : Option AV} {t0 : AV} {a0 : Int32} {a1 : Int32} {a2 : Int32} {a3 : Int32} {j t : Nat} {L2 : List (Nat × AV)} {S : SS} : ev c 282 65 [l0, l1, l2] L2 [aI a3, aI a2, aI a1, aI a0, aR (12, j, t), t0] S = ck (c 238 [aR (12, j, t), aI a0, aI a1, aI a2, aI a3] S) (fun v S' => ev c 282 68 [l0, l1, l2] L2 (v.toList ++ [t0]) S') := ev_call i282_65 rfl
theorem i282_68 : insAt 282 68 = some (.goto 4, 3, (0, 0, 0, 0), 0) := rfl
theorem s282_68 {c : Nat → List AV → SS → Option Out} {l0 l1 l2 : Option AV} {L2 : List (Nat × AV)} {St : List AV} {S : SS} : ev c 282 68 [l0, l1, l2] L2 St S = ev c 282 72 [l0, l1, l2] L2 St S := ev_go i282_68 rfl
theorem i282_71 : insAt 282 71 = some (.iconst 0, 1, (0, 0, 0, 0), 0) := rfl
theorem s282_71 {c : Nat → List AV → SS → Option Out} {l0 l1 l2 : Option AV} {L2 : List (Nat × AV)} {St : List AV} {S : SS} : ev c 282 71 [l0, l1, l2] L2 St S = ev c 282 72 [l0, l1, l2] L2 (aI 0 :: St) S := ev_go i282_71 rfl
theorem i282_72 : insAt 282 72 = some (.iadd, 1, (0, 0, 0, 0), 0) := rfl
theorem s282_72 {c : Nat → List AV → SS → Option Out} {l0 l1 l2 : Option AV} {x y : Int32} {L2 : List (Nat × AV)} {St : List AV} {S : SS} : ev c 282 72 [l0, l1, l2] L2 (aI y :: aI x :: St) S = ev c 282 73 [l0, l1, l2] L2 (aI (x + y) :: St) S := ev_go i282_72 rfl
theorem i282_73 : insAt 282 73 = some (.istore_n 1, 1, (0, 0, 0, 0), 0) := rfl
theorem s282_73 {c : Nat → List AV → SS → Option Out} {l0 l1 l2 : Option AV} {x : Int32} {L2 : List (Nat × AV)} {St : List AV} {S : SS} : ev c 282 73 [l0, l1, l2] L2 (aI x :: St) S = ev c 282 74 [l0, some (aI x), l2] (kil L2 1) St S := ev_go i282_73 rfl
theorem i282_74 : insAt 282 74 = some (.iinc 2 1, 3, (0, 0, 0, 0), 0) := rfl
theorem s282_74 {c : Nat → List AV → SS → Option Out} {l0 l1 : Option AV} {x : Int32} {L2 : List (Nat × AV)} {St : List AV} {S : SS} : ev c 282 74 [l0, l1, some (aI x)] L2 St S = ev c 282 77 [l0, l1, some (aI (x + 1))] (kil L2 2) St S := ev_go i282_74 rfl
theorem i282_77 : insAt 282 77 = some (.goto (-52), 3, (0, 0, 0, 0), 0) := rfl
theorem s282_77 {c : Nat → List AV → SS → Option Out} {l0 l1 l2 : Option AV} {L2 : List (Nat × AV)} {St : List AV} {S : SS} : ev c 282 77 [l0, l1, l2] L2 St S = ev c 282 25 [l0, l1, l2] L2 St S := ev_go i282_77 rfl
theorem i282_80 : insAt 282 80 = some (.iload_n 1, 1, (0, 0, 0, 0), 0) := rfl
theorem s282_80 {c : Nat → List AV → SS → Option Out} {l0 l2 : Option AV} {x : Int32} {L2 : List (Nat × AV)} {St : List AV} {S : SS} : ev c 282 80 [l0, some (aI x), l2] L2 St S = ev c 282 81 [l0, some (aI x), l2] L2 (aI x :: St) S := ev_go i282_80 rfl
theorem i282_81 : insAt 282 81 = some (.i2f, 1, (0, 0, 0, 0), 0) := rfl
theorem s282_81 {c : Nat → List AV → SS → Option Out} {l0 l1 l2 : Option AV} {x : Int32} {L2 : List (Nat × AV)} {St : List AV} {S : SS} : ev c 282 81 [l0, l1, l2] L2 (aI x :: St) S = ev c 282 82 [l0, l1, l2] L2 (aF (FP.i2f x) :: St) S := ev_go i282_81 rfl
theorem i282_82 : insAt 282 82 = some (.aload_n 0, 1, (0, 0, 0, 0), 0) := rfl
theorem s282_82 {c : Nat → List AV → SS → Option Out} {l1 l2 : Option AV} {o : OId} {L2 : List (Nat × AV)} {St : List AV} {S : SS} : ev c 282 82 [some (aR o), l1, l2] L2 St S = ev c 282 83 [some (aR o), l1, l2] L2 (aR o :: St) S := ev_go i282_82 rfl
theorem i282_83 : insAt 282 83 = some (.invokevirtual 180, 3, (261, 0, 2, 12), 416) := rfl
theorem s282_83 {c : Nat → List AV → SS → Option Out} {l0 l1 l2 : Option AV} {t0 : AV} {j t : Nat} {L2 : List (Nat × AV)} {S : SS} : ev c 282 83 [l0, l1, l2] L2 [aR (12, j, t), t0] S = ck (c 261 [aR (12, j, t)] S) (fun v S' => ev c 282 86 [l0, l1, l2] L2 (v.toList ++ [t0]) S') := ev_call i282_83 rfl
theorem i282_86 : insAt 282 86 = some (.i2f, 1, (0, 0, 0, 0), 0) := rfl
theorem s282_86 {c : Nat → List AV → SS → Option Out} {l0 l1 l2 : Option AV} {x : Int32} {L2 : List (Nat × AV)} {St : List AV} {S : SS} : ev c 282 86 [l0, l1, l2] L2 (aI x :: St) S = ev c 282 87 [l0, l1, l2] L2 (aF (FP.i2f x) :: St) S := ev_go i282_86 rfl
theorem i282_87 : insAt 282 87 = some (.fdiv, 1, (0, 0, 0, 0), 0) := rfl
theorem s282_87 {c : Nat → List AV → SS → Option Out} {l0 l1 l2 : Option AV} {x y : UInt32} {L2 : List (Nat × AV)} {St : List AV} {S : SS} : ev c 282 87 [l0, l1, l2] L2 (aF y :: aF x :: St) S = if FP.fdiv x y &&& 0x7fffffff ≤ 0x7f800000 then ev c 282 88 [l0, l1, l2] L2 (aF (FP.fdiv x y) :: St) S else none := ev_if i282_87 rfl
theorem i282_88 : insAt 282 88 = some (.freturn, 1, (0, 0, 0, 0), 0) := rfl
theorem s282_88 {c : Nat → List AV → SS → Option Out} {l0 l1 l2 : Option AV} {x : UInt32} {L2 : List (Nat × AV)} {S : SS} : ev c 282 88 [l0, l1, l2] L2 [aF x] S = some (.inl (some (aF x)), S) := ev_end i282_88 rfl
theorem m282 {d : Nat} {o : OId} {S : SS} : evm (d + 1) 282 [aR o] S = ev (evm d) 282 0 [some (aR o), none, none] [] [] S := evm_s (n := 3) rfl (Nat.le_of_ble_eq_true rfl) rfl rfl
/-! FrequencyOfficeModel.isConsistent()Z -/
theorem i283_0 : insAt 283 0 = some (.aload_n 0, 1, (0, 0, 0, 0), 0) := rfl
theorem s283_0 {c : Nat → List AV → SS → Option Out} {l1 l2 : Option AV} {o : OId} {L2 : List (Nat × AV)} {St : List AV} {S : SS} : ev c 283 0 [some (aR o), l1, l2] L2 St S = ev c 283 1 [some (aR o), l1, l2] L2 (aR o :: St) S := ev_go i283_0 rfl
theorem i283_1 : insAt 283 1 = some (.iconst 0, 1, (0, 0, 0, 0), 0) := rfl
theorem s283_1 {c : Nat → List AV → SS → Option Out} {l0 l1 l2 : Option AV} {L2 : List (Nat × AV)} {St : List AV} {S : SS} : ev c 283 1 [l0, l1, l2] L2 St S = ev c 283 2 [l0, l1, l2] L2 (aI 0 :: St) S := ev_go i283_1 rfl
theorem i283_2 : insAt 283 2 = some (.putfield 31, 3, (12, 7, 0, 0), 371) := rfl
theorem s283_2 {c : Nat → List AV → SS → Option Out} {l0 l1 l2 : Option AV} {j t : Nat} {x : Int32} {L2 : List (Nat × AV)} {St : List AV} {S : SS} : ev c 283 2 [l0, l1, l2] L2 (aI x :: aR (12, j, t) :: St) S = ev c 283 5 [l0, l1, l2] L2 St (setI S.1 (12, j, t) 7 x, S.2) := ev_go i283_2 rfl
theorem i283_5 : insAt 283 5 = some (.iconst 0, 1, (0, 0, 0, 0), 0) := rfl
theorem s283_5 {c : Nat → List AV → SS → Option Out} {l0 l1 l2 : Option AV} {L2 : List (Nat × AV)} {St : List AV} {S : SS} : ev c 283 5 [l0, l1, l2] L2 St S = ev c 283 6 [l0, l1, l2] L2 (aI 0 :: St) S := ev_go i283_5 rfl
theorem i283_6 : insAt 283 6 = some (.istore_n 1, 1, (0, 0, 0, 0), 0) := rfl
theorem s283_6 {c : Nat → List AV → SS → Option Out} {l0 l1 l2 : Option AV} {x : Int32} {L2 : List (Nat × AV)} {St : List AV} {S : SS} : ev c 283 6 [l0, l1, l2] L2 (aI x :: St) S = ev c 283 7 [l0, some (aI x), l2] (kil L2 1) St S := ev_go i283_6 rfl
theorem i283_7 : insAt 283 7 = some (.iload_n 1, 1, (0, 0, 0, 0), 0) := rfl
theorem s283_7 {c : Nat → List AV → SS → Option Out} {l0 l2 : Option AV} {x : Int32} {L2 : List (Nat × AV)} {St : List AV} {S : SS} : ev c 283 7 [l0, some (aI x), l2] L2 St S = ev c 283 8 [l0, some (aI x), l2] L2 (aI x :: St) S := ev_go i283_7 rfl
theorem i283_8 : insAt 283 8 = some (.aload_n 0, 1, (0, 0, 0, 0), 0) := rfl
theorem s283_8 {c : Nat → List AV → SS → Option Out} {l1 l2 : Option AV} {o : OId} {L2 : List (Nat × AV)} {St : List AV} {S : SS} : ev c 283 8 [some (aR o), l1, l2] L2 St S = ev c 283 9 [some (aR o), l1, l2] L2 (aR o :: St) S := ev_go i283_8 rfl
theorem i283_9 : insAt 283 9 = some (.getfield 7, 3, (12, 0, 0, 0), 364) := rfl
theorem s283_9 {c : Nat → List AV → SS → Option Out} {l0 l1 l2 : Option AV} {j t : Nat} {L2 : List (Nat × AV)} {St : List AV} {S : SS} : ev c 283 9 [l0, l1, l2] L2 (aR (12, j, t) :: St) S = ev c 283 12 [l0, l1, l2] L2 (S.2.2.1 (12, j, t) 0 :: St) S := ev_go i283_9 rfl
theorem i283_12 : insAt 283 12 = some (.bipush 7, 2, (0, 0, 0, 0), 0) := rfl
theorem s283_12 {c : Nat → List AV → SS → Option Out} {l0 l1 l2 : Option AV} {L2 : List (Nat × AV)} {St : List AV} {S : SS} : ev c 283 12 [l0, l1, l2] L2 St S = ev c 283 14 [l0, l1, l2] L2 (aI 7 :: St) S := ev_go i283_12 rfl
theorem i283_14 : insAt 283 14 = some (.iaload, 1, (0, 0, 0, 0), 0) := rfl
theorem s283_14 {c : Nat → List AV → SS → Option Out} {l0 l1 l2 : Option AV} {i : Int32} {o : OId} {L2 : List (Nat × AV)} {St : List AV} {S : SS} : ev c 283 14 [l0, l1, l2] L2 (aI i :: aR o :: St) S = kI o i (ev c 283 15 [l0, l1, l2] L2 (aI (agI S o i.toNatClampNeg) :: St) S) := ev_iaload i283_14
theorem i283_15 : insAt 283 15 = some (.if_icmp .ge 61, 3, (0, 0, 0, 0), 0) := rfl
theorem s283_15 {c : Nat → List AV → SS → Option Out} {l0 l1 l2 : Option AV} {x y : Int32} {L2 : List (Nat × AV)} {St : List AV} {S : SS} : ev c 283 15 [l0, l1, l2] L2 (aI y :: aI x :: St) S = if y ≤ x then ev c 283 76 [l0, l1, l2] L2 St S else ev c 283 18 [l0, l1, l2] L2 St S := ev_br i283_15 rfl
theorem i283_18 : insAt 283 18 = some (.aload_n 0, 1, (0, 0, 0, 0), 0) := rfl
theorem s283_18 {c : Nat → List AV → SS → Option Out} {l1 l2 : Option AV} {o : OId} {L2 : List (Nat × AV)} {St : List AV} {S : SS} : ev c 283 18 [some (aR o), l1, l2] L2 St S = ev c 283 19 [some (aR o), l1, l2] L2 (aR o :: St) S := ev_go i283_18 rfl
theorem i283_19 : insAt 283 19 = some (.iload_n 1, 1, (0, 0, 0, 0), 0) := rfl
theorem s283_19 {c : Nat → List AV → SS → Option Out} {l0 l2 : Option AV} {x : Int32} {L2 : List (Nat × AV)} {St : List AV} {S : SS} : ev c 283 19 [l0, some (aI x), l2] L2 St S = ev c 283 20 [l0, some (aI x), l2] L2 (aI x :: St) S := ev_go i283_19 rfl
theorem i283_20 : insAt 283 20 = some (.iconst 4, 1, (0, 0, 0, 0), 0) := rfl
theorem s283_20 {c : Nat → List AV → SS → Option Out} {l0 l1 l2 : Option AV} {L2 : List (Nat × AV)} {St : List AV} {S : SS} : ev c 283 20 [l0, l1, l2] L2 St S = ev c 283 21 [l0, l1, l2] L2 (aI 4 :: St) S := ev_go i283_20 rfl
theorem i283_21 : insAt 283 21 = some (.invokevirtual 75, 3, (231, 2, 2, 12), 396) := rfl
theorem s283_21 {c : Nat → List AV → SS → Option Out} {l0 l1 l2 : Option AV} {a0 : Int32} {a1 : Int32} {j t : Nat} {L2 : List (Nat × AV)} {S : SS} : ev c 283 21 [l0, l1, l2] L2 [aI a1, aI a0, aR (12, j, t)] S = ck (c 231 [aR (12, j, t), aI a0, aI a1] S) (fun v S' => ev c 283 24 [l0, l1, l2] L2 (v.toList ++ []) S') := ev_call i283_21 rfl
theorem i283_24 : insAt 283 24 = some (.aload_n 0, 1, (0, 0, 0, 0), 0) := rfl
theorem s283_24 {c : Nat → List AV → SS → Option Out} {l1 l2 : Option AV} {o : OId} {L2 : List (Nat × AV)} {St : List AV} {S : SS} : ev c 283 24 [some (aR o), l1, l2] L2 St S = ev c 283 25 [some (aR o), l1, l2] L2 (aR o :: St) S := ev_go i283_24 rfl
theorem i283_25 : insAt 283 25 = some (.getfield 7, 3, (12, 0, 0, 0), 364) := rfl
theorem s283_25 {c : Nat → List AV → SS → Option Out} {l0 l1 l2 : Option AV} {j t : Nat} {L2 : List (Nat × AV)} {St : List AV} {S : SS} : ev c 283 25 [l0, l1, l2] L2 (aR (12, j, t) :: St) S = ev c 283 28 [l0, l1, l2] L2 (S.2.2.1 (12, j, t) 0 :: St) S := ev_go i283_25 rfl
theorem i283_28 : insAt 283 28 = some (.iconst 3, 1, (0, 0, 0, 0), 0) := rfl
theorem s283_28 {c : Nat → List AV → SS → Option Out} {l0 l1 l2 : Option AV} {L2 : List (Nat × AV)} {St : List AV} {S : SS} : ev c 283 28 [l0, l1, l2] L2 St S = ev c 283 29 [l0, l1, l2] L2 (aI 3 :: St) S := ev_go i283_28 rfl
theorem i283_29 : insAt 283 29 = some (.iaload, 1, (0, 0, 0, 0), 0) := rfl
theorem s283_29 {c : Nat → List AV → SS → Option Out} {l0 l1 l2 : Option AV} {i : Int32} {o : OId} {L2 : List (Nat × AV)} {St : List AV} {S : SS} : ev c 283 29 [l0, l1, l2] L2 (aI i :: aR o :: St) S = kI o i (ev c 283 30 [l0, l1, l2] L2 (aI (agI S o i.toNatClampNeg) :: St) S) := ev_iaload i283_29
theorem i283_30 : insAt 283 30 = some (.if_icmp .gt 5, 3, (0, 0, 0, 0), 0) := rfl
theorem s283_30 {c : Nat → List AV → SS → Option Out} {l0 l1 l2 : Option AV} {x y : Int32} {L2 : List (Nat × AV)} {St : List AV} {S : SS} : ev c 283 30 [l0, l1, l2] L2 (aI y :: aI x :: St) S = if y < x then ev c 283 35 [l0, l1, l2] L2 St S else ev c 283 33 [l0, l1, l2] L2 St S := ev_br i283_30 rfl
theorem i283_33 : insAt 283 33 = some (.iconst 0, 1, (0, 0, 0, 0), 0) := rfl
theorem s283_33 {c : Nat → List AV → SS → Option Out} {l0 l1 l2 : Option AV} {L2 : List (Nat × AV)} {St : List AV} {S : SS} : ev c 283 33 [l0, l1, l2] L2 St S = ev c 283 34 [l0, l1, l2] L2 (aI 0 :: St) S := ev_go i283_33 rfl
theorem i283_34 : insAt 283 34 = some (.ireturn, 1, (0, 0, 0, 0), 0) := rfl
theorem s283_34 {c : Nat → List AV → SS → Option Out} {l0 l1 l2 : Option AV} {x : Int32} {L2 : List (Nat × AV)} {S : SS} : ev c 283 34 [l0, l1, l2] L2 [aI x] S = if x = 0 ∨ x = 1 then some (.inl (some (aI x)), S) else none := ev_rt i283_34 rfl
theorem i283_35 : insAt 283 35 = some (.iconst 0, 1, (0, 0, 0, 0), 0) := rfl
theorem s283_35 {c : Nat → List AV → SS → Option Out} {l0 l1 l2 : Option AV} {L2 : List (Nat × AV)} {St : List AV} {S : SS} : ev c 283 35 [l0, l1, l2] L2 St S = ev c 283 36 [l0, l1, l2] L2 (aI 0 :: St) S := ev_go i283_35 rfl
theorem i283_36 : insAt 283 36 = some (.istore_n 2, 1, (0, 0, 0, 0), 0) := rfl
theorem s283_36 {c : Nat → List AV → SS → Option Out} {l0 l1 l2 : Option AV} {x : Int32} {L2 : List (Nat × AV)} {St : List AV} {S : SS} : ev c 283 36 [l0, l1, l2] L2 (aI x :: St) S = ev c 283 37 [l0, l1, some (aI x)] (kil L2 2) St S := ev_go i283_36 rfl
theorem i283_37 : insAt 283 37 = some (.iload_n 2, 1, (0, 0, 0, 0), 0) := rfl
theorem s283_37 {c : Nat → List AV → SS → Option Out} {l0 l1 : Option AV} {x : Int32} {L2 : List (Nat × AV)} {St : List AV} {S : SS} : ev c 283 37 [l0, l1, some (aI x)] L2 St S = ev c 283 38 [l0, l1, some (aI x)] L2 (aI x :: St) S := ev_go i283_37 rfl
theorem i283_38 : insAt 283 38 = some (.aload_n 0, 1, (0, 0, 0, 0), 0) := rfl
theorem s283_38 {c : Nat → List AV → SS → Option Out} {l1 l2 : Option AV} {o : OId} {L2 : List (Nat × AV)} {St : List AV} {S : SS} : ev c 283 38 [some (aR o), l1, l2] L2 St S = ev c 283 39 [some (aR o), l1, l2] L2 (aR o :: St) S := ev_go i283_38 rfl
theorem i283_39 : insAt 283 39 = some (.getfield 7, 3, (12, 0, 0, 0), 364) := rfl
theorem s283_39 {c : Nat → List AV → SS → Option Out} {l0 l1 l2 : Option AV} {j t : Nat} {L2 : List (Nat × AV)} {St : List AV} {S : SS} : ev c 283 39 [l0, l1, l2] L2 (aR (12, j, t) :: St) S = ev c 283 42 [l0, l1, l2] L2 (S.2.2.1 (12, j, t) 0 :: St) S := ev_go i283_39 rfl
theorem i283_42 : insAt 283 42 = some (.bipush 7, 2, (0, 0, 0, 0), 0) := rfl
theorem s283_42 {c : Nat → List AV → SS → Option Out} {l0 l1 l2 : Option AV} {L2 : List (Nat × AV)} {St : List AV} {S : SS} : ev c 283 42 [l0, l1, l2] L2 St S = ev c 283 44 [l0, l1, l2] L2 (aI 7 :: St) S := ev_go i283_42 rfl
theorem i283_44 : insAt 283 44 = some (.iaload, 1, (0, 0, 0, 0), 0) := rfl
theorem s283_44 {c : Nat → List AV → SS → Option Out} {l0 l1 l2 : Option AV} {i : Int32} {o : OId} {L2 : List (Nat × AV)} {St : List AV} {S : SS} : ev c 283 44 [l0, l1, l2] L2 (aI i :: aR o :: St) S = kI o i (ev c 283 45 [l0, l1, l2] L2 (aI (agI S o i.toNatClampNeg) :: St) S) := ev_iaload i283_44
theorem i283_45 : insAt 283 45 = some (.if_icmp .ge 25, 3, (0, 0, 0, 0), 0) := rfl
theorem s283_45 {c : Nat → List AV → SS → Option Out} {l0 l1 l2 : Option AV} {x y : Int32} {L2 : List (Nat × AV)} {St : List AV} {S : SS} : ev c 283 45 [l0, l1, l2] L2 (aI y :: aI x :: St) S = if y ≤ x then ev c 283 70 [l0, l1, l2] L2 St S else ev c 283 48 [l0, l1, l2] L2 St S := ev_br i283_45 rfl
theorem i283_48 : insAt 283 48 = some (.iload_n 2, 1, (0, 0, 0, 0), 0) := rfl
theorem s283_48 {c : Nat → List AV → SS → Option Out} {l0 l1 : Option AV} {x : Int32} {L2 : List (Nat × AV)} {St : List AV} {S : SS} : ev c 283 48 [l0, l1, some (aI x)] L2 St S = ev c 283 49 [l0, l1, some (aI x)] L2 (aI x :: St) S := ev_go i283_48 rfl
theorem i283_49 : insAt 283 49 = some (.iload_n 1, 1, (0, 0, 0, 0), 0) := rfl
theorem s283_49 {c : Nat → List AV → SS → Option Out} {l0 l2 : Option AV} {x : Int32} {L2 : List (Nat × AV)} {St : List AV} {S : SS} : ev c 283 49 [l0, some (aI x), l2] L2 St S = ev c 283 50 [l0, some (aI x), l2] L2 (aI x :: St) S := ev_go i283_49 rfl
theorem i283_50 : insAt 283 50 = some (.if_icmp .eq 14, 3, (0, 0, 0, 0), 0) := rfl
theorem s283_50 {c : Nat → List AV → SS → Option Out} {l0 l1 l2 : Option AV} {x y : Int32} {L2 : List (Nat × AV)} {St : List AV} {S : SS} : ev c 283 50 [l0, l1, l2] L2 (aI y :: aI x :: St) S = if x = y then ev c 283 64 [l0, l1, l2] L2 St S else ev c 283 53 [l0, l1, l2] L2 St S := ev_br i283_50 rfl
theorem i283_53 : insAt 283 53 = some (.aload_n 0, 1, (0, 0, 0, 0), 0) := rfl
theorem s283_53 {c : Nat → List AV → SS → Option Out} {l1 l2 : Option AV} {o : OId} {L2 : List (Nat × AV)} {St : List AV} {S : SS} : ev c 283 53 [some (aR o), l1, l2] L2 St S = ev c 283 54 [some (aR o), l1, l2] L2 (aR o :: St) S := ev_go i283_53 rfl
theorem i283_54 : insAt 283 54 = some (.iload_n 1, 1, (0, 0, 0, 0), 0) := rfl
theorem s283_54 {c : Nat → List AV → SS → Option Out} {l0 l2 : Option AV} {x : Int32} {L2 : List (Nat × AV)} {St : List AV} {S : SS} : ev c 283 54 [l0, some (aI x), l2] L2 St S = ev c 283 55 [l0, some (aI x), l2] L2 (aI x :: St) S := ev_go i283_54 rfl
theorem i283_55 : insAt 283 55 = some (.iload_n 2, 1, (0, 0, 0, 0), 0) := rfl
theorem s283_55 {c : Nat → List AV → SS → Option Out} {l0 l1 : Option AV} {x : Int32} {L2 : List (Nat × AV)} {St : List AV} {S : SS} : ev c 283 55 [l0, l1, some (aI x)] L2 St S = ev c 283 56 [l0, l1, some (aI x)] L2 (aI x :: St) S := ev_go i283_55 rfl
theorem i283_56 : insAt 283 56 = some (.invokevirtual 144, 3, (248, 2, 2, 12), 412) := rfl
theorem s283_56 {c : Nat → List AV → SS → Option Out} {l0 l1 l2 : Option AV} {a0 : Int32} {a1 : Int32} {j t : Nat} {L2 : List (Nat × AV)} {S : SS} : ev c 283 56 [l0, l1, l2] L2 [aI a1, aI a0, aR (12, j, t)] S = ck (c 248 [aR (12, j, t), aI a0, aI a1] S) (fun v S' => ev c 283 59 [l0, l1, l2] L2 (v.toList ++ []) S') := ev_call i283_56 rfl
theorem i283_59 : insAt 283 59 = some (.ifCond .eq 5, 3, (0, 0, 0, 0), 0) := rfl
theorem s283_59 {c : Nat → List AV → SS → Option Out} {l0 l1 l2 : Option AV} {x : Int32} {L2 : List (Nat × AV)} {St : List AV} {S : SS} : ev c 283 59 [l0, l1, l2] L2 (aI x :: St) S = if x = 0 then ev c 283 64 [l0, l1, l2] L2 St S else ev c 283 62 [l0, l1, l2] L2 St S := ev_br i283_59 rfl
theorem i283_62 : insAt 283 62 = some (.iconst 0, 1, (0, 0, 0, 0), 0) := rfl
theorem s283_62 {c : Nat → List AV → SS → Option Out} {l0 l1 l2 : Option AV} {L2 : List (Nat × AV)} {St : List AV} {S : SS} : ev c 283 62 [l0, l1, l2] L2 St S = ev c 283 63 [l0, l1, l2] L2 (aI 0 :: St) S := ev_go i283_62 rfl
theorem i283_63 : insAt 283 63 = some (.ireturn, 1, (0, 0, 0, 0), 0) := rfl
theorem s283_63 {c : Nat → List AV → SS → Option Out} {l0 l1 l2 : Option AV} {x : Int32} {L2 : List (Nat × AV)} {S : SS} : ev c 283 63 [l0, l1, l2] L2 [aI x] S = if x = 0 ∨ x = 1 then some (.inl (some (aI x)), S) else none := ev_rt i283_63 rfl
theorem i283_64 : insAt 283 64 = some (.iinc 2 1, 3, (0, 0, 0, 0), 0) := rfl
theorem s283_64 {c : Nat → List AV → SS → Option Out} {l0 l1 : Option AV} {x : Int32} {L2 : List (Nat × AV)} {St : List AV} {S : SS} : ev c 283 64 [l0, l1, some (aI x)] L2 St S = ev c 283 67 [l0, l1, some (aI (x + 1))] (kil L2 2) St S := ev_go i283_64 rfl
theorem i283_67 : insAt 283 67 = some (.goto (-30), 3, (0, 0, 0, 0), 0) := rfl
theorem s283_67 {c : Nat → List AV → SS → Option Out} {l0 l1 l2 : Option AV} {L2 : List (Nat × AV)} {St : List AV} {S : SS} : ev c 283 67 [l0, l1, l2] L2 St S = ev c 283 37 [l0, l1, l2] L2 St S := ev_go i283_67 rfl
theorem i283_70 : insAt 283 70 = some (.iinc 1 1, 3, (0, 0, 0, 0), 0) := rfl
theorem s283_70 {c : Nat → List AV → SS → Option Out} {l0 l2 : Option AV} {x : Int32} {L2 : List (Nat × AV)} {St : List AV} {S : SS} : ev c 283 70 [l0, some (aI x), l2] L2 St S = ev c 283 73 [l0, some (aI (x + 1)), l2] (kil L2 1) St S := ev_go i283_70 rfl
theorem i283_73 : insAt 283 73 = some (.goto (-66), 3, (0, 0, 0, 0), 0) := rfl
theorem s283_73 {c : Nat → List AV → SS → Option Out} {l0 l1 l2 : Option AV} {L2 : List (Nat × AV)} {St : List AV} {S : SS} : ev c 283 73 [l0, l1, l2] L2 St S = ev c 283 7 [l0, l1, l2] L2 St S := ev_go i283_73 rfl
theorem i283_76 : insAt 283 76 = some (.iconst 1, 1, (0, 0, 0, 0), 0) := rfl
theorem s283_76 {c : Nat → List AV → SS → Option Out} {l0 l1 l2 : Option AV} {L2 : List (Nat × AV)} {St : List AV} {S : SS} : ev c 283 76 [l0, l1, l2] L2 St S = ev c 283 77 [l0, l1, l2] L2 (aI 1 :: St) S := ev_go i283_76 rfl
theorem i283_77 : insAt 283 77 = some (.ireturn, 1, (0, 0, 0, 0), 0) := rfl
theorem s283_77 {c : Nat → List AV → SS → Option Out} {l0 l1 l2 : Option AV} {x : Int32} {L2 : List (Nat × AV)} {S : SS} : ev c 283 77 [l0, l1, l2] L2 [aI x] S = if x = 0 ∨ x = 1 then some (.inl (some (aI x)), S) else none := ev_rt i283_77 rfl
theorem m283 {d : Nat} {o : OId} {S : SS} : evm (d + 1) 283 [aR o] S = ev (evm d) 283 0 [some (aR o), none, none] [] [] S := evm_s (n := 3) rfl (Nat.le_of_ble_eq_true rfl) rfl rfl
/-! FrequencyOfficeModel.openChannels(II)I -/
theorem i284_0 : insAt 284 0 = some (.aload_n 0, 1, (0, 0, 0, 0), 0) := rfl
theorem s284_0 {c : Nat → List AV → SS → Option Out} {l1 l2 l3 l4 : Option AV} {o : OId} {L2 : List (Nat × AV)} {St : List AV} {S : SS} : ev c 284 0 [some (aR o), l1, l2, l3, l4] L2 St S = ev c 284 1 [some (aR o), l1, l2, l3, l4] L2 (aR o :: St) S := ev_go i284_0 rfl
theorem i284_1 : insAt 284 1 = some (.iload_n 1, 1, (0, 0, 0, 0), 0) := rfl
theorem s284_1 {c : Nat → List AV → SS → Option Out} {l0 l2 l3 l4 : Option AV} {x : Int32} {L2 : List (Nat × AV)} {St : List AV} {S : SS} : ev c 284 1 [l0, some (aI x), l2, l3, l4] L2 St S = ev c 284 2 [l0, some (aI x), l2, l3, l4] L2 (aI x :: St) S := ev_go i284_1 rfl
theorem i284_2 : insAt 284 2 = some (.iload_n 2, 1, (0, 0, 0, 0), 0) := rfl
theorem s284_2 {c : Nat → List AV → SS → Option Out} {l0 l1 l3 l4 : Option AV} {x : Int32} {L2 : List (Nat × AV)} {St : List AV} {S : SS} : ev c 284 2 [l0, l1, some (aI x), l3, l4] L2 St S = ev c 284 3 [l0, l1, some (aI x), l3, l4] L2 (aI x :: St) S := ev_go i284_2 rfl
theorem i284_3 : insAt 284 3 = some (.invokestatic 158, 3, (224, 2, 0, 0), 387) := rfl
theorem s284_3 {c : Nat → List AV → SS → Option Out} {l0 l1 l2 l3 l4 : Option AV} {t0 : AV} {a0 : Int32} {a1 : Int32} {L2 : List (Nat × AV)} {S : SS} : ev c 284 3 [l0, l1, l2, l3, l4] L2 [aI a1, aI a0, t0] S = ck (c 224 [aI a0, aI a1] S) (fun v S' => ev c 284 6 [l0, l1, l2, l3, l4] L2 (v.toList ++ [t0]) S') := ev_call i284_3 rfl
theorem i284_6 : insAt 284 6 = some (.invokevirtual 176, 3, (256, 1, 2, 12), 415) := rfl
theorem s284_6 {c : Nat → List AV → SS → Option Out} {l0 l1 l2 l3 l4 : Option AV} {a0 : Int32} {j t : Nat} {L2 : List (Nat × AV)} {S : SS} : ev c 284 6 [l0, l1, l2, l3, l4] L2 [aI a0, aR (12, j, t)] S = ck (c 256 [aR (12, j, t), aI a0] S) (fun v S' => ev c 284 9 [l0, l1, l2, l3, l4] L2 (v.toList ++ []) S') := ev_call i284_6 rfl
theorem i284_9 : insAt 284 9 = some (.ifCond .le 5, 3, (0, 0, 0, 0), 0) := rfl
theorem s284_9 {c : Nat → List AV → SS → Option Out} {l0 l1 l2 l3 l4 : Option AV} {x : Int32} {L2 : List (Nat × AV)} {St : List AV} {S : SS} : ev c 284 9 [l0, l1, l2, l3, l4] L2 (aI x :: St) S = if x ≤ 0 then ev c 284 14 [l0, l1, l2, l3, l4] L2 St S else ev c 284 12 [l0, l1, l2, l3, l4] L2 St S := ev_br i284_9 rfl
theorem i284_12 : insAt 284 12 = some (.iconst 0, 1, (0, 0, 0, 0), 0) := rfl
theorem s284_12 {c : Nat → List AV → SS → Option Out} {l0 l1 l2 l3 l4 : Option AV} {L2 : List (Nat × AV)} {St : List AV} {S : SS} : ev c 284 12 [l0, l1, l2, l3, l4] L2 St S = ev c 284 13 [l0, l1, l2, l3, l4] L2 (aI 0 :: St) S := ev_go i284_12 rfl
theorem i284_13 : insAt 284 13 = some (.ireturn, 1, (0, 0, 0, 0), 0) := rfl
theorem s284_13 {c : Nat → List AV → SS → Option Out} {l0 l1 l2 l3 l4 : Option AV} {x : Int32} {L2 : List (Nat × AV)} {S : SS} : ev c 284 13 [l0, l1, l2, l3, l4] L2 [aI x] S = some (.inl (some (aI x)), S) := ev_end i284_13 rfl
theorem i284_14 : insAt 284 14 = some (.aload_n 0, 1, (0, 0, 0, 0), 0) := rfl
theorem s284_14 {c : Nat → List AV → SS → Option Out} {l1 l2 l3 l4 : Option AV} {o : OId} {L2 : List (Nat × AV)} {St : List AV} {S : SS} : ev c 284 14 [some (aR o), l1, l2, l3, l4] L2 St S = ev c 284 15 [some (aR o), l1, l2, l3, l4] L2 (aR o :: St) S := ev_go i284_14 rfl
theorem i284_15 : insAt 284 15 = some (.iload_n 1, 1, (0, 0, 0, 0), 0) := rfl
theorem s284_15 {c : Nat → List AV → SS → Option Out} {l0 l2 l3 l4 : Option AV} {x : Int32} {L2 : List (Nat × AV)} {St : List AV} {S : SS} : ev c 284 15 [l0, some (aI x), l2, l3, l4] L2 St S = ev c 284 16 [l0, some (aI x), l2, l3, l4] L2 (aI x :: St) S := ev_go i284_15 rfl
theorem i284_16 : insAt 284 16 = some (.putfield 41, 3, (12, 10, 0, 0), 374) := rfl
theorem s284_16 {c : Nat → List AV → SS → Option Out} {l0 l1 l2 l3 l4 : Option AV} {j t : Nat} {x : Int32} {L2 : List (Nat × AV)} {St : List AV} {S : SS} : ev c 284 16 [l0, l1, l2, l3, l4] L2 (aI x :: aR (12, j, t) :: St) S = ev c 284 19 [l0, l1, l2, l3, l4] L2 St (setI S.1 (12, j, t) 10 x, S.2) := ev_go i284_16 rfl
theorem i284_19 : insAt 284 19 = some (.aload_n 0, 1, (0, 0, 0, 0), 0) := rfl
theorem s284_19 {c : Nat → List AV → SS → Option Out} {l1 l2 l3 l4 : Option AV} {o : OId} {L2 : List (Nat × AV)} {St : List AV} {S : SS} : ev c 284 19 [some (aR o), l1, l2, l3, l4] L2 St S = ev c 284 20 [some (aR o), l1, l2, l3, l4] L2 (aR o :: St) S := ev_go i284_19 rfl
theorem i284_20 : insAt 284 20 = some (.iload_n 2, 1, (0, 0, 0, 0), 0) := rfl
theorem s284_20 {c : Nat → List AV → SS → Option Out} {l0 l1 l3 l4 : Option AV} {x : Int32} {L2 : List (Nat × AV)} {St : List AV} {S : SS} : ev c 284 20 [l0, l1, some (aI x), l3, l4] L2 St S = ev c 284 21 [l0, l1, some (aI x), l3, l4] L2 (aI x :: St) S := ev_go i284_20 rfl
theorem i284_21 : insAt 284 21 = some (.putfield 44, 3, (12, 11, 0, 0), 375) := rfl
theorem s284_21 {c : Nat → List AV → SS → Option Out} {l0 l1 l2 l3 l4 : Option AV} {j t : Nat} {x : Int32} {L2 : List (Nat × AV)} {St : List AV} {S : SS} : ev c 284 21 [l0, l1, l2, l3, l4] L2 (aI x :: aR (12, j, t) :: St) S = ev c 284 24 [l0, l1, l2, l3, l4] L2 St (setI S.1 (12, j, t) 11 x, S.2) := ev_go i284_21 rfl
theorem i284_24 : insAt 284 24 = some (.aload_n 0, 1, (0, 0, 0, 0), 0) := rfl
theorem s284_24 {c : Nat → List AV → SS → Option Out} {l1 l2 l3 l4 : Option AV} {o : OId} {L2 : List (Nat × AV)} {St : List AV} {S : SS} : ev c 284 24 [some (aR o), l1, l2, l3, l4] L2 St S = ev c 284 25 [some (aR o), l1, l2, l3, l4] L2 (aR o :: St) S := ev_go i284_24 rfl
theorem i284_25 : insAt 284 25 = some (.iconst (-1), 1, (0, 0, 0, 0), 0) := rfl
theorem s284_25 {c : Nat → List AV → SS → Option Out} {l0 l1 l2 l3 l4 : Option AV} {L2 : List (Nat × AV)} {St : List AV} {S : SS} : ev c 284 25 [l0, l1, l2, l3, l4] L2 St S = ev c 284 26 [l0, l1, l2, l3, l4] L2 (aI (-1) :: St) S := ev_go i284_25 rfl
theorem i284_26 : insAt 284 26 = some (.putfield 38, 3, (12, 9, 0, 0), 373) := rfl
theorem s284_26 {c : Nat → List AV → SS → Option Out} {l0 l1 l2 l3 l4 : Option AV} {j t : Nat} {x : Int32} {L2 : List (Nat × AV)} {St : List AV} {S : SS} : ev c 284 26 [l0, l1, l2, l3, l4] L2 (aI x :: aR (12, j, t) :: St) S = ev c 284 29 [l0, l1, l2, l3, l4] L2 St (setI S.1 (12, j, t) 9 x, S.2) := ev_go i284_26 rfl
theorem i284_29 : insAt 284 29 = some (.iconst 0, 1, (0, 0, 0, 0), 0) := rfl
theorem s284_29 {c : Nat → List AV → SS → Option Out} {l0 l1 l2 l3 l4 : Option AV} {L2 : List (Nat × AV)} {St : List AV} {S : SS} : ev c 284 29 [l0, l1, l2, l3, l4] L2 St S = ev c 284 30 [l0, l1, l2, l3, l4] L2 (aI 0 :: St) S := ev_go i284_29 rfl
theorem i284_30 : insAt 284 30 = some (.istore_n 3, 1, (0, 0, 0, 0), 0) := rfl
theorem s284_30 {c : Nat → List AV → SS → Option Out} {l0 l1 l2 l3 l4 : Option AV} {x : Int32} {L2 : List (Nat × AV)} {St : List AV} {S : SS} : ev c 284 30 [l0, l1, l2, l3, l4] L2 (aI x :: St) S = ev c 284 31 [l0, l1, l2, some (aI x), l4] (kil L2 3) St S := ev_go i284_30 rfl
theorem i284_31 : insAt 284 31 = some (.iconst 0, 1, (0, 0, 0, 0), 0) := rfl
theorem s284_31 {c : Nat → List AV → SS → Option Out} {l0 l1 l2 l3 l4 : Option AV} {L2 : List (Nat × AV)} {St : List AV} {S : SS} : ev c 284 31 [l0, l1, l2, l3, l4] L2 St S = ev c 284 32 [l0, l1, l2, l3, l4] L2 (aI 0 :: St) S := ev_go i284_31 rfl
theorem i284_32 : insAt 284 32 = some (.istore 4, 2, (0, 0, 0, 0), 0) := rfl
theorem s284_32 {c : Nat → List AV → SS → Option Out} {l0 l1 l2 l3 l4 : Option AV} {x : Int32} {L2 : List (Nat × AV)} {St : List AV} {S : SS} : ev c 284 32 [l0, l1, l2, l3, l4] L2 (aI x :: St) S = ev c 284 34 [l0, l1, l2, l3, some (aI x)] (kil L2 4) St S := ev_go i284_32 rfl
theorem i284_34 : insAt 284 34 = some (.iload 4, 2, (0, 0, 0, 0), 0) := rfl
theorem s284_34 {c : Nat → List AV → SS → Option Out} {l0 l1 l2 l3 : Option AV} {x : Int32} {L2 : List (Nat × AV)} {St : List AV} {S : SS} : ev c 284 34 [l0, l1, l2, l3, some (aI x)] L2 St S = ev c 284 36 [l0, l1, l2, l3, some (aI x)] L2 (aI x :: St) S := ev_go i284_34 rfl
theorem i284_36 : insAt 284 36 = some (.bipush 8, 2, (0, 0, 0, 0), 0) := rfl
theorem s284_36 {c : Nat → List AV → SS → Option Out} {l0 l1 l2 l3 l4 : Option AV} {L2 : List (Nat × AV)} {St : List AV} {S : SS} : ev c 284 36 [l0, l1, l2, l3, l4] L2 St S = ev c 284 38 [l0, l1, l2, l3, l4] L2 (aI 8 :: St) S := ev_go i284_36 rfl
theorem i284_38 : insAt 284 38 = some (.if_icmp .ge 29, 3, (0, 0, 0, 0), 0) := rfl
theorem s284_38 {c : Nat → List AV → SS → Option Out} {l0 l1 l2 l3 l4 : Option AV} {x y : Int32} {L2 : List (Nat × AV)} {St : List AV} {S : SS} : ev c 284 38 [l0, l1, l2, l3, l4] L2 (aI y :: aI x :: St) S = if y ≤ x then ev c 284 67 [l0, l1, l2, l3, l4] L2 St S else ev c 284 41 [l0, l1, l2, l3, l4] L2 St S := ev_br i284_38 rfl
theorem i284_41 : insAt 284 41 = some (.iload_n 3, 1, (0, 0, 0, 0), 0) := rfl
theorem s284_41 {c : Nat → List AV → SS → Option Out} {l0 l1 l2 l4 : Option AV} {x : Int32} {L2 : List (Nat × AV)} {St : List AV} {S : SS} : ev c 284 41 [l0, l1, l2, some (aI x), l4] L2 St S = ev c 284 42 [l0, l1, l2, some (aI x), l4] L2 (aI x :: St) S := ev_go i284_41 rfl
theorem i284_42 : insAt 284 42 = some (.aload_n 0, 1, (0, 0, 0, 0), 0) := rfl
theorem s284_42 {c : Nat → List AV → SS → Option Out} {l1 l2 l3 l4 : Option AV} {o : OId} {L2 : List (Nat × AV)} {St : List AV} {S : SS} : ev c 284 42 [some (aR o), l1, l2, l3, l4] L2 St S = ev c 284 43 [some (aR o), l1, l2, l3, l4] L2 (aR o :: St) S := ev_go i284_42 rfl
theorem i284_43 : insAt 284 43 = some (.iload 4, 2, (0, 0, 0, 0), 0) := rfl
theorem s284_43 {c : Nat → List AV → SS → Option Out} {l0 l1 l2 l3 : Option AV} {x : Int32} {L2 : List (Nat × AV)} {St : List AV} {S : SS} : ev c 284 43 [l0, l1, l2, l3, some (aI x)] L2 St S = ev c 284 45 [l0, l1, l2, l3, some (aI x)] L2 (aI x :: St) S := ev_go i284_43 rfl
theorem i284_45 : insAt 284 45 = some (.invokevirtual 122, 3, (229, 1, 2, 12), 398) := rfl
theorem s284_45 {c : Nat → List AV → SS → Option Out} {l0 l1 l2 l3 l4 : Option AV} {t0 : AV} {a0 : Int32} {j t : Nat} {L2 : List (Nat × AV)} {S : SS} : ev c 284 45 [l0, l1, l2, l3, l4] L2 [aI a0, aR (12, j, t), t0] S = ck (c 229 [aR (12, j, t), aI a0] S) (fun v S' => ev c 284 48 [l0, l1, l2, l3, l4] L2 (v.toList ++ [t0]) S') := ev_call i284_45 rfl
theorem i284_48 : insAt 284 48 = some (.ifCond .eq 10, 3, (0, 0, 0, 0), 0) := rfl
theorem s284_48 {c : Nat → List AV → SS → Option Out} {l0 l1 l2 l3 l4 : Option AV} {x : Int32} {L2 : List (Nat × AV)} {St : List AV} {S : SS} : ev c 284 48 [l0, l1, l2, l3, l4] L2 (aI x :: St) S = if x = 0 then ev c 284 58 [l0, l1, l2, l3, l4] L2 St S else ev c 284 51 [l0, l1, l2, l3, l4] L2 St S := ev_br i284_48 rfl
theorem i284_51 : insAt 284 51 = some (.iconst 1, 1, (0, 0, 0, 0), 0) := rfl
theorem s284_51 {c : Nat → List AV → SS → Option Out} {l0 l1 l2 l3 l4 : Option AV} {L2 : List (Nat × AV)} {St : List AV} {S : SS} : ev c 284 51 [l0, l1, l2, l3, l4] L2 St S = ev c 284 52 [l0, l1, l2, l3, l4] L2 (aI 1 :: St) S := ev_go i284_51 rfl
theorem i284_52 : insAt 284 52 = some (.iload 4, 2, (0, 0, 0, 0), 0) := rfl
theorem s284_52 {c : Nat → List AV → SS → Option Out} {l0 l1 l2 l3 : Option AV} {x : Int32} {L2 : List (Nat × AV)} {St : List AV} {S : SS} : ev c 284 52 [l0, l1, l2, l3, some (aI x)] L2 St S = ev c 284 54 [l0, l1, l2, l3, some (aI x)] L2 (aI x :: St) S := ev_go i284_52 rfl
theorem i284_54 : insAt 284 54 = some (.ishl, 1, (0, 0, 0, 0), 0) := rfl
theorem s284_54 {c : Nat → List AV → SS → Option Out} {l0 l1 l2 l3 l4 : Option AV} {x y : Int32} {L2 : List (Nat × AV)} {St : List AV} {S : SS} : ev c 284 54 [l0, l1, l2, l3, l4] L2 (aI y :: aI x :: St) S = ev c 284 55 [l0, l1, l2, l3, l4] L2 (aI (x <<< (y &&& 31)) :: St) S := ev_go i284_54 rfl
theorem i284_55 : insAt 284 55 = some (.goto 4, 3, (0, 0, 0, 0), 0) := rfl
theorem s284_55 {c : Nat → List AV → SS → Option Out} {l0 l1 l2 l3 l4 : Option AV} {L2 : List (Nat × AV)} {St : List AV} {S : SS} : ev c 284 55 [l0, l1, l2, l3, l4] L2 St S = ev c 284 59 [l0, l1, l2, l3, l4] L2 St S := ev_go i284_55 rfl
theorem i284_58 : insAt 284 58 = some (.iconst 0, 1, (0, 0, 0, 0), 0) := rfl
theorem s284_58 {c : Nat → List AV → SS → Option Out} {l0 l1 l2 l3 l4 : Option AV} {L2 : List (Nat × AV)} {St : List AV} {S : SS} : ev c 284 58 [l0, l1, l2, l3, l4] L2 St S = ev c 284 59 [l0, l1, l2, l3, l4] L2 (aI 0 :: St) S := ev_go i284_58 rfl
theorem i284_59 : insAt 284 59 = some (.iadd, 1, (0, 0, 0, 0), 0) := rfl
theorem s284_59 {c : Nat → List AV → SS → Option Out} {l0 l1 l2 l3 l4 : Option AV} {x y : Int32} {L2 : List (Nat × AV)} {St : List AV} {S : SS} : ev c 284 59 [l0, l1, l2, l3, l4] L2 (aI y :: aI x :: St) S = ev c 284 60 [l0, l1, l2, l3, l4] L2 (aI (x + y) :: St) S := ev_go i284_59 rfl
theorem i284_60 : insAt 284 60 = some (.istore_n 3, 1, (0, 0, 0, 0), 0) := rfl
theorem s284_60 {c : Nat → List AV → SS → Option Out} {l0 l1 l2 l3 l4 : Option AV} {x : Int32} {L2 : List (Nat × AV)} {St : List AV} {S : SS} : ev c 284 60 [l0, l1, l2, l3, l4] L2 (aI x :: St) S = ev c 284 61 [l0, l1, l2, some (aI x), l4] (kil L2 3) St S := ev_go i284_60 rfl
theorem i284_61 : insAt 284 61 = some (.iinc 4 1, 3, (0, 0, 0, 0), 0) := rfl
theorem s284_61 {c : Nat → List AV → SS → Option Out} {l0 l1 l2 l3 : Option AV} {x : Int32} {L2 : List (Nat × AV)} {St : List AV} {S : SS} : ev c 284 61 [l0, l1, l2, l3, some (aI x)] L2 St S = ev c 284 64 [l0, l1, l2, l3, some (aI (x + 1))] (kil L2 4) St S := ev_go i284_61 rfl
theorem i284_64 : insAt 284 64 = some (.goto (-30), 3, (0, 0, 0, 0), 0) := rfl
theorem s284_64 {c : Nat → List AV → SS → Option Out} {l0 l1 l2 l3 l4 : Option AV} {L2 : List (Nat × AV)} {St : List AV} {S : SS} : ev c 284 64 [l0, l1, l2, l3, l4] L2 St S = ev c 284 34 [l0, l1, l2, l3, l4] L2 St S := ev_go i284_64 rfl
theorem i284_67 : insAt 284 67 = some (.iload_n 3, 1, (0, 0, 0, 0), 0) := rfl
theorem s284_67 {c : Nat → List AV → SS → Option Out} {l0 l1 l2 l4 : Option AV} {x : Int32} {L2 : List (Nat × AV)} {St : List AV} {S : SS} : ev c 284 67 [l0, l1, l2, some (aI x), l4] L2 St S = ev c 284 68 [l0, l1, l2, some (aI x), l4] L2 (aI x :: St) S := ev_go i284_67 rfl
theorem i284_68 : insAt 284 68 = some (.ireturn, 1, (0, 0, 0, 0), 0) := rfl
theorem s284_68 {c : Nat → List AV → SS → Option Out} {l0 l1 l2 l3 l4 : Option AV} {x : Int32} {L2 : List (Nat × AV)} {S : SS} : ev c 284 68 [l0, l1, l2, l3, l4] L2 [aI x] S = some (.inl (some (aI x)), S) := ev_end i284_68 rfl
theorem m284 {d : Nat} {o : OId} {a0 : Int32} {a1 : Int32} {S : SS} : evm (d + 1) 284 [aR o, aI a0, aI a1] S = ev (evm d) 284 0 [some (aR o), some (aI a0), some (aI a1), none, none] [] [] S := evm_s (n := 5) rfl (Nat.le_of_ble_eq_true rfl) rfl rfl
/-! FrequencyOfficeModel.movesFor(II)I -/
theorem i285_0 : insAt 285 0 = some (.aload_n 0, 1, (0, 0, 0, 0), 0) := rfl
theorem s285_0 {c : Nat → List AV → SS → Option Out} {l1 l2 l3 : Option AV} {o : OId} {L2 : List (Nat × AV)} {St : List AV} {S : SS} : ev c 285 0 [some (aR o), l1, l2, l3] L2 St S = ev c 285 1 [some (aR o), l1, l2, l3] L2 (aR o :: St) S := ev_go i285_0 rfl
theorem i285_1 : insAt 285 1 = some (.iload_n 1, 1, (0, 0, 0, 0), 0) := rfl
theorem s285_1 {c : Nat → List AV → SS → Option Out} {l0 l2 l3 : Option AV} {x : Int32} {L2 : List (Nat × AV)} {St : List AV} {S : SS} : ev c 285 1 [l0, some (aI x), l2, l3] L2 St S = ev c 285 2 [l0, some (aI x), l2, l3] L2 (aI x :: St) S := ev_go i285_1 rfl
theorem i285_2 : insAt 285 2 = some (.iload_n 2, 1, (0, 0, 0, 0), 0) := rfl
theorem s285_2 {c : Nat → List AV → SS → Option Out} {l0 l1 l3 : Option AV} {x : Int32} {L2 : List (Nat × AV)} {St : List AV} {S : SS} : ev c 285 2 [l0, l1, some (aI x), l3] L2 St S = ev c 285 3 [l0, l1, some (aI x), l3] L2 (aI x :: St) S := ev_go i285_2 rfl
theorem i285_3 : insAt 285 3 = some (.invokestatic 158, 3, (224, 2, 0, 0), 387) := rfl
theorem s285_3 {c : Nat → List AV → SS → Option Out} {l0 l1 l2 l3 : Option AV} {t0 : AV} {a0 : Int32} {a1 : Int32} {L2 : List (Nat × AV)} {S : SS} : ev c 285 3 [l0, l1, l2, l3] L2 [aI a1, aI a0, t0] S = ck (c 224 [aI a0, aI a1] S) (fun v S' => ev c 285 6 [l0, l1, l2, l3] L2 (v.toList ++ [t0]) S') := ev_call i285_3 rfl
theorem i285_6 : insAt 285 6 = some (.invokevirtual 176, 3, (256, 1, 2, 12), 415) := rfl
theorem s285_6 {c : Nat → List AV → SS → Option Out} {l0 l1 l2 l3 : Option AV} {a0 : Int32} {j t : Nat} {L2 : List (Nat × AV)} {S : SS} : ev c 285 6 [l0, l1, l2, l3] L2 [aI a0, aR (12, j, t)] S = ck (c 256 [aR (12, j, t), aI a0] S) (fun v S' => ev c 285 9 [l0, l1, l2, l3] L2 (v.toList ++ []) S') := ev_call i285_6 rfl
theorem i285_9 : insAt 285 9 = some (.ifCond .le 5, 3, (0, 0, 0, 0), 0) := rfl
theorem s285_9 {c : Nat → List AV → SS → Option Out} {l0 l1 l2 l3 : Option AV} {x : Int32} {L2 : List (Nat × AV)} {St : List AV} {S : SS} : ev c 285 9 [l0, l1, l2, l3] L2 (aI x :: St) S = if x ≤ 0 then ev c 285 14 [l0, l1, l2, l3] L2 St S else ev c 285 12 [l0, l1, l2, l3] L2 St S := ev_br i285_9 rfl
theorem i285_12 : insAt 285 12 = some (.iconst 0, 1, (0, 0, 0, 0), 0) := rfl
theorem s285_12 {c : Nat → List AV → SS → Option Out} {l0 l1 l2 l3 : Option AV} {L2 : List (Nat × AV)} {St : List AV} {S : SS} : ev c 285 12 [l0, l1, l2, l3] L2 St S = ev c 285 13 [l0, l1, l2, l3] L2 (aI 0 :: St) S := ev_go i285_12 rfl
theorem i285_13 : insAt 285 13 = some (.ireturn, 1, (0, 0, 0, 0), 0) := rfl
theorem s285_13 {c : Nat → List AV → SS → Option Out} {l0 l1 l2 l3 : Option AV} {x : Int32} {L2 : List (Nat × AV)} {S : SS} : ev c 285 13 [l0, l1, l2, l3] L2 [aI x] S = some (.inl (some (aI x)), S) := ev_end i285_13 rfl
theorem i285_14 : insAt 285 14 = some (.aload_n 0, 1, (0, 0, 0, 0), 0) := rfl
theorem s285_14 {c : Nat → List AV → SS → Option Out} {l1 l2 l3 : Option AV} {o : OId} {L2 : List (Nat × AV)} {St : List AV} {S : SS} : ev c 285 14 [some (aR o), l1, l2, l3] L2 St S = ev c 285 15 [some (aR o), l1, l2, l3] L2 (aR o :: St) S := ev_go i285_14 rfl
theorem i285_15 : insAt 285 15 = some (.iload_n 1, 1, (0, 0, 0, 0), 0) := rfl
theorem s285_15 {c : Nat → List AV → SS → Option Out} {l0 l2 l3 : Option AV} {x : Int32} {L2 : List (Nat × AV)} {St : List AV} {S : SS} : ev c 285 15 [l0, some (aI x), l2, l3] L2 St S = ev c 285 16 [l0, some (aI x), l2, l3] L2 (aI x :: St) S := ev_go i285_15 rfl
theorem i285_16 : insAt 285 16 = some (.iload_n 2, 1, (0, 0, 0, 0), 0) := rfl
theorem s285_16 {c : Nat → List AV → SS → Option Out} {l0 l1 l3 : Option AV} {x : Int32} {L2 : List (Nat × AV)} {St : List AV} {S : SS} : ev c 285 16 [l0, l1, some (aI x), l3] L2 St S = ev c 285 17 [l0, l1, some (aI x), l3] L2 (aI x :: St) S := ev_go i285_16 rfl
theorem i285_17 : insAt 285 17 = some (.iconst (-1), 1, (0, 0, 0, 0), 0) := rfl
theorem s285_17 {c : Nat → List AV → SS → Option Out} {l0 l1 l2 l3 : Option AV} {L2 : List (Nat × AV)} {St : List AV} {S : SS} : ev c 285 17 [l0, l1, l2, l3] L2 St S = ev c 285 18 [l0, l1, l2, l3] L2 (aI (-1) :: St) S := ev_go i285_17 rfl
theorem i285_18 : insAt 285 18 = some (.iconst (-1), 1, (0, 0, 0, 0), 0) := rfl
theorem s285_18 {c : Nat → List AV → SS → Option Out} {l0 l1 l2 l3 : Option AV} {L2 : List (Nat × AV)} {St : List AV} {S : SS} : ev c 285 18 [l0, l1, l2, l3] L2 St S = ev c 285 19 [l0, l1, l2, l3] L2 (aI (-1) :: St) S := ev_go i285_18 rfl
theorem i285_19 : insAt 285 19 = some (.iconst (-1), 1, (0, 0, 0, 0), 0) := rfl
theorem s285_19 {c : Nat → List AV → SS → Option Out} {l0 l1 l2 l3 : Option AV} {L2 : List (Nat × AV)} {St : List AV} {S : SS} : ev c 285 19 [l0, l1, l2, l3] L2 St S = ev c 285 20 [l0, l1, l2, l3] L2 (aI (-1) :: St) S := ev_go i285_19 rfl
theorem i285_20 : insAt 285 20 = some (.invokevirtual 140, 3, (226, 5, 2, 12), 389) := rfl
theorem s285_20 {c : Nat → List AV → SS → Option Out} {l0 l1 l2 l3 : Option AV} {a0 : Int32} {a1 : Int32} {a2 : Int32} {a3 : Int32} {a4 : Int32} {j t : Nat} {L2 : List (Nat × AV)} {S : SS} : ev c 285 20 [l0, l1, l2, l3] L2 [aI a4, aI a3, aI a2, aI a1, aI a0, aR (12, j, t)] S = ck (c 226 [aR (12, j, t), aI a0, aI a1, aI a2, aI a3, aI a4] S) (fun v S' => ev c 285 23 [l0, l1, l2, l3] L2 (v.toList ++ []) S') := ev_call i285_20 rfl
theorem i285_23 : insAt 285 23 = some (.istore_n 3, 1, (0, 0, 0, 0), 0) := rfl
theorem s285_23 {c : Nat → List AV → SS → Option Out} {l0 l1 l2 l3 : Option AV} {x : Int32} {L2 : List (Nat × AV)} {St : List AV} {S : SS} : ev c 285 23 [l0, l1, l2, l3] L2 (aI x :: St) S = ev c 285 24 [l0, l1, l2, some (aI x)] (kil L2 3) St S := ev_go i285_23 rfl
theorem i285_24 : insAt 285 24 = some (.aload_n 0, 1, (0, 0, 0, 0), 0) := rfl
theorem s285_24 {c : Nat → List AV → SS → Option Out} {l1 l2 l3 : Option AV} {o : OId} {L2 : List (Nat × AV)} {St : List AV} {S : SS} : ev c 285 24 [some (aR o), l1, l2, l3] L2 St S = ev c 285 25 [some (aR o), l1, l2, l3] L2 (aR o :: St) S := ev_go i285_24 rfl
theorem i285_25 : insAt 285 25 = some (.iload_n 3, 1, (0, 0, 0, 0), 0) := rfl
theorem s285_25 {c : Nat → List AV → SS → Option Out} {l0 l1 l2 : Option AV} {x : Int32} {L2 : List (Nat × AV)} {St : List AV} {S : SS} : ev c 285 25 [l0, l1, l2, some (aI x)] L2 St S = ev c 285 26 [l0, l1, l2, some (aI x)] L2 (aI x :: St) S := ev_go i285_25 rfl
theorem i285_26 : insAt 285 26 = some (.ifCond .ge 7, 3, (0, 0, 0, 0), 0) := rfl
theorem s285_26 {c : Nat → List AV → SS → Option Out} {l0 l1 l2 l3 : Option AV} {x : Int32} {L2 : List (Nat × AV)} {St : List AV} {S : SS} : ev c 285 26 [l0, l1, l2, l3] L2 (aI x :: St) S = if 0 ≤ x then ev c 285 33 [l0, l1, l2, l3] L2 St S else ev c 285 29 [l0, l1, l2, l3] L2 St S := ev_br i285_26 rfl
theorem i285_29 : insAt 285 29 = some (.iconst 2, 1, (0, 0, 0, 0), 0) := rfl
theorem s285_29 {c : Nat → List AV → SS → Option Out} {l0 l1 l2 l3 : Option AV} {L2 : List (Nat × AV)} {St : List AV} {S : SS} : ev c 285 29 [l0, l1, l2, l3] L2 St S = ev c 285 30 [l0, l1, l2, l3] L2 (aI 2 :: St) S := ev_go i285_29 rfl
theorem i285_30 : insAt 285 30 = some (.goto 4, 3, (0, 0, 0, 0), 0) := rfl
theorem s285_30 {c : Nat → List AV → SS → Option Out} {l0 l1 l2 l3 : Option AV} {L2 : List (Nat × AV)} {St : List AV} {S : SS} : ev c 285 30 [l0, l1, l2, l3] L2 St S = ev c 285 34 [l0, l1, l2, l3] L2 St S := ev_go i285_30 rfl
theorem i285_33 : insAt 285 33 = some (.iconst 0, 1, (0, 0, 0, 0), 0) := rfl
theorem s285_33 {c : Nat → List AV → SS → Option Out} {l0 l1 l2 l3 : Option AV} {L2 : List (Nat × AV)} {St : List AV} {S : SS} : ev c 285 33 [l0, l1, l2, l3] L2 St S = ev c 285 34 [l0, l1, l2, l3] L2 (aI 0 :: St) S := ev_go i285_33 rfl
theorem i285_34 : insAt 285 34 = some (.putfield 31, 3, (12, 7, 0, 0), 371) := rfl
theorem s285_34 {c : Nat → List AV → SS → Option Out} {l0 l1 l2 l3 : Option AV} {j t : Nat} {x : Int32} {L2 : List (Nat × AV)} {St : List AV} {S : SS} : ev c 285 34 [l0, l1, l2, l3] L2 (aI x :: aR (12, j, t) :: St) S = ev c 285 37 [l0, l1, l2, l3] L2 St (setI S.1 (12, j, t) 7 x, S.2) := ev_go i285_34 rfl
theorem i285_37 : insAt 285 37 = some (.iload_n 3, 1, (0, 0, 0, 0), 0) := rfl
theorem s285_37 {c : Nat → List AV → SS → Option Out} {l0 l1 l2 : Option AV} {x : Int32} {L2 : List (Nat × AV)} {St : List AV} {S : SS} : ev c 285 37 [l0, l1, l2, some (aI x)] L2 St S = ev c 285 38 [l0, l1, l2, some (aI x)] L2 (aI x :: St) S := ev_go i285_37 rfl
theorem i285_38 : insAt 285 38 = some (.ireturn, 1, (0, 0, 0, 0), 0) := rfl
theorem s285_38 {c : Nat → List AV → SS → Option Out} {l0 l1 l2 l3 : Option AV} {x : Int32} {L2 : List (Nat × AV)} {S : SS} : ev c 285 38 [l0, l1, l2, l3] L2 [aI x] S = some (.inl (some (aI x)), S) := ev_end i285_38 rfl
theorem m285 {d : Nat} {o : OId} {a0 : Int32} {a1 : Int32} {S : SS} : evm (d + 1) 285 [aR o, aI a0, aI a1] S = ev (evm d) 285 0 [some (aR o), some (aI a0), some (aI a1), none] [] [] S := evm_s (n := 4) rfl (Nat.le_of_ble_eq_true rfl) rfl rfl
/-! FrequencyOfficeModel.movesForByQueue(II)I -/
theorem i286_0 : insAt 286 0 = some (.aload_n 0, 1, (0, 0, 0, 0), 0) := rfl
theorem s286_0 {c : Nat → List AV → SS → Option Out} {l1 l2 : Option AV} {o : OId} {L2 : List (Nat × AV)} {St : List AV} {S : SS} : ev c 286 0 [some (aR o), l1, l2] L2 St S = ev c 286 1 [some (aR o), l1, l2] L2 (aR o :: St) S := ev_go i286_0 rfl
theorem i286_1 : insAt 286 1 = some (.iload_n 1, 1, (0, 0, 0, 0), 0) := rfl
theorem s286_1 {c : Nat → List AV → SS → Option Out} {l0 l2 : Option AV} {x : Int32} {L2 : List (Nat × AV)} {St : List AV} {S : SS} : ev c 286 1 [l0, some (aI x), l2] L2 St S = ev c 286 2 [l0, some (aI x), l2] L2 (aI x :: St) S := ev_go i286_1 rfl
theorem i286_2 : insAt 286 2 = some (.iload_n 2, 1, (0, 0, 0, 0), 0) := rfl
theorem s286_2 {c : Nat → List AV → SS → Option Out} {l0 l1 : Option AV} {x : Int32} {L2 : List (Nat × AV)} {St : List AV} {S : SS} : ev c 286 2 [l0, l1, some (aI x)] L2 St S = ev c 286 3 [l0, l1, some (aI x)] L2 (aI x :: St) S := ev_go i286_2 rfl
theorem i286_3 : insAt 286 3 = some (.invokevirtual 192, 3, (285, 2, 2, 12), 420) := rfl
theorem s286_3 {c : Nat → List AV → SS → Option Out} {l0 l1 l2 : Option AV} {a0 : Int32} {a1 : Int32} {j t : Nat} {L2 : List (Nat × AV)} {S : SS} : ev c 286 3 [l0, l1, l2] L2 [aI a1, aI a0, aR (12, j, t)] S = ck (c 285 [aR (12, j, t), aI a0, aI a1] S) (fun v S' => ev c 286 6 [l0, l1, l2] L2 (v.toList ++ []) S') := ev_call i286_3 rfl
theorem i286_6 : insAt 286 6 = some (.ireturn, 1, (0, 0, 0, 0), 0) := rfl
theorem s286_6 {c : Nat → List AV → SS → Option Out} {l0 l1 l2 : Option AV} {x : Int32} {L2 : List (Nat × AV)} {S : SS} : ev c 286 6 [l0, l1, l2] L2 [aI x] S = some (.inl (some (aI x)), S) := ev_end i286_6 rfl
theorem m286 {d : Nat} {o : OId} {a0 : Int32} {a1 : Int32} {S : SS} : evm (d + 1) 286 [aR o, aI a0, aI a1] S = ev (evm d) 286 0 [some (aR o), some (aI a0), some (aI a1)] [] [] S := evm_s (n := 3) rfl (Nat.le_of_ble_eq_true rfl) rfl rfl
/-! FrequencyOfficeModel.movesToChange(II)I -/
theorem i287_0 : insAt 287 0 = some (.aload_n 0, 1, (0, 0, 0, 0), 0) := rfl
theorem s287_0 {c : Nat → List AV → SS → Option Out} {l1 l2 l3 : Option AV} {o : OId} {L2 : List (Nat × AV)} {St : List AV} {S : SS} : ev c 287 0 [some (aR o), l1, l2, l3] L2 St S = ev c 287 1 [some (aR o), l1, l2, l3] L2 (aR o :: St) S := ev_go i287_0 rfl
theorem i287_1 : insAt 287 1 = some (.aload_n 0, 1, (0, 0, 0, 0), 0) := rfl
theorem s287_1 {c : Nat → List AV → SS → Option Out} {l1 l2 l3 : Option AV} {o : OId} {L2 : List (Nat × AV)} {St : List AV} {S : SS} : ev c 287 1 [some (aR o), l1, l2, l3] L2 St S = ev c 287 2 [some (aR o), l1, l2, l3] L2 (aR o :: St) S := ev_go i287_1 rfl
theorem i287_2 : insAt 287 2 = some (.iload_n 1, 1, (0, 0, 0, 0), 0) := rfl
theorem s287_2 {c : Nat → List AV → SS → Option Out} {l0 l2 l3 : Option AV} {x : Int32} {L2 : List (Nat × AV)} {St : List AV} {S : SS} : ev c 287 2 [l0, some (aI x), l2, l3] L2 St S = ev c 287 3 [l0, some (aI x), l2, l3] L2 (aI x :: St) S := ev_go i287_2 rfl
theorem i287_3 : insAt 287 3 = some (.iload_n 2, 1, (0, 0, 0, 0), 0) := rfl
theorem s287_3 {c : Nat → List AV → SS → Option Out} {l0 l1 l3 : Option AV} {x : Int32} {L2 : List (Nat × AV)} {St : List AV} {S : SS} : ev c 287 3 [l0, l1, some (aI x), l3] L2 St S = ev c 287 4 [l0, l1, some (aI x), l3] L2 (aI x :: St) S := ev_go i287_3 rfl
theorem i287_4 : insAt 287 4 = some (.invokevirtual 195, 3, (288, 2, 2, 12), 421) := rfl
theorem s287_4 {c : Nat → List AV → SS → Option Out} {l0 l1 l2 l3 : Option AV} {t0 : AV} {a0 : Int32} {a1 : Int32} {j t : Nat} {L2 : List (Nat × AV)} {S : SS} : ev c 287 4 [l0, l1, l2, l3] L2 [aI a1, aI a0, aR (12, j, t), t0] S = ck (c 288 [aR (12, j, t), aI a0, aI a1] S) (fun v S' => ev c 287 7 [l0, l1, l2, l3] L2 (v.toList ++ [t0]) S') := ev_call i287_4 rfl
theorem i287_7 : insAt 287 7 = some (.putfield 31, 3, (12, 7, 0, 0), 371) := rfl
theorem s287_7 {c : Nat → List AV → SS → Option Out} {l0 l1 l2 l3 : Option AV} {j t : Nat} {x : Int32} {L2 : List (Nat × AV)} {St : List AV} {S : SS} : ev c 287 7 [l0, l1, l2, l3] L2 (aI x :: aR (12, j, t) :: St) S = ev c 287 10 [l0, l1, l2, l3] L2 St (setI S.1 (12, j, t) 7 x, S.2) := ev_go i287_7 rfl
theorem i287_10 : insAt 287 10 = some (.aload_n 0, 1, (0, 0, 0, 0), 0) := rfl
theorem s287_10 {c : Nat → List AV → SS → Option Out} {l1 l2 l3 : Option AV} {o : OId} {L2 : List (Nat × AV)} {St : List AV} {S : SS} : ev c 287 10 [some (aR o), l1, l2, l3] L2 St S = ev c 287 11 [some (aR o), l1, l2, l3] L2 (aR o :: St) S := ev_go i287_10 rfl
theorem i287_11 : insAt 287 11 = some (.getfield 31, 3, (12, 7, 0, 0), 371) := rfl
theorem s287_11 {c : Nat → List AV → SS → Option Out} {l0 l1 l2 l3 : Option AV} {j t : Nat} {L2 : List (Nat × AV)} {St : List AV} {S : SS} : ev c 287 11 [l0, l1, l2, l3] L2 (aR (12, j, t) :: St) S = ev c 287 14 [l0, l1, l2, l3] L2 (aI (S.1 (12, j, t) 7) :: St) S := ev_go i287_11 rfl
theorem i287_14 : insAt 287 14 = some (.ifCond .le 5, 3, (0, 0, 0, 0), 0) := rfl
theorem s287_14 {c : Nat → List AV → SS → Option Out} {l0 l1 l2 l3 : Option AV} {x : Int32} {L2 : List (Nat × AV)} {St : List AV} {S : SS} : ev c 287 14 [l0, l1, l2, l3] L2 (aI x :: St) S = if x ≤ 0 then ev c 287 19 [l0, l1, l2, l3] L2 St S else ev c 287 17 [l0, l1, l2, l3] L2 St S := ev_br i287_14 rfl
theorem i287_17 : insAt 287 17 = some (.iconst 0, 1, (0, 0, 0, 0), 0) := rfl
theorem s287_17 {c : Nat → List AV → SS → Option Out} {l0 l1 l2 l3 : Option AV} {L2 : List (Nat × AV)} {St : List AV} {S : SS} : ev c 287 17 [l0, l1, l2, l3] L2 St S = ev c 287 18 [l0, l1, l2, l3] L2 (aI 0 :: St) S := ev_go i287_17 rfl
theorem i287_18 : insAt 287 18 = some (.ireturn, 1, (0, 0, 0, 0), 0) := rfl
theorem s287_18 {c : Nat → List AV → SS → Option Out} {l0 l1 l2 l3 : Option AV} {x : Int32} {L2 : List (Nat × AV)} {S : SS} : ev c 287 18 [l0, l1, l2, l3] L2 [aI x] S = some (.inl (some (aI x)), S) := ev_end i287_18 rfl
theorem i287_19 : insAt 287 19 = some (.aload_n 0, 1, (0, 0, 0, 0), 0) := rfl
theorem s287_19 {c : Nat → List AV → SS → Option Out} {l1 l2 l3 : Option AV} {o : OId} {L2 : List (Nat × AV)} {St : List AV} {S : SS} : ev c 287 19 [some (aR o), l1, l2, l3] L2 St S = ev c 287 20 [some (aR o), l1, l2, l3] L2 (aR o :: St) S := ev_go i287_19 rfl
theorem i287_20 : insAt 287 20 = some (.aload_n 0, 1, (0, 0, 0, 0), 0) := rfl
theorem s287_20 {c : Nat → List AV → SS → Option Out} {l1 l2 l3 : Option AV} {o : OId} {L2 : List (Nat × AV)} {St : List AV} {S : SS} : ev c 287 20 [some (aR o), l1, l2, l3] L2 St S = ev c 287 21 [some (aR o), l1, l2, l3] L2 (aR o :: St) S := ev_go i287_20 rfl
theorem i287_21 : insAt 287 21 = some (.iload_n 1, 1, (0, 0, 0, 0), 0) := rfl
theorem s287_21 {c : Nat → List AV → SS → Option Out} {l0 l2 l3 : Option AV} {x : Int32} {L2 : List (Nat × AV)} {St : List AV} {S : SS} : ev c 287 21 [l0, some (aI x), l2, l3] L2 St S = ev c 287 22 [l0, some (aI x), l2, l3] L2 (aI x :: St) S := ev_go i287_21 rfl
theorem i287_22 : insAt 287 22 = some (.invokevirtual 173, 3, (253, 1, 2, 12), 414) := rfl
theorem s287_22 {c : Nat → List AV → SS → Option Out} {l0 l1 l2 l3 : Option AV} {t0 : AV} {a0 : Int32} {j t : Nat} {L2 : List (Nat × AV)} {S : SS} : ev c 287 22 [l0, l1, l2, l3] L2 [aI a0, aR (12, j, t), t0] S = ck (c 253 [aR (12, j, t), aI a0] S) (fun v S' => ev c 287 25 [l0, l1, l2, l3] L2 (v.toList ++ [t0]) S') := ev_call i287_22 rfl
theorem i287_25 : insAt 287 25 = some (.iload_n 2, 1, (0, 0, 0, 0), 0) := rfl
theorem s287_25 {c : Nat → List AV → SS → Option Out} {l0 l1 l3 : Option AV} {x : Int32} {L2 : List (Nat × AV)} {St : List AV} {S : SS} : ev c 287 25 [l0, l1, some (aI x), l3] L2 St S = ev c 287 26 [l0, l1, some (aI x), l3] L2 (aI x :: St) S := ev_go i287_25 rfl
theorem i287_26 : insAt 287 26 = some (.iconst (-1), 1, (0, 0, 0, 0), 0) := rfl
theorem s287_26 {c : Nat → List AV → SS → Option Out} {l0 l1 l2 l3 : Option AV} {L2 : List (Nat × AV)} {St : List AV} {S : SS} : ev c 287 26 [l0, l1, l2, l3] L2 St S = ev c 287 27 [l0, l1, l2, l3] L2 (aI (-1) :: St) S := ev_go i287_26 rfl
theorem i287_27 : insAt 287 27 = some (.invokevirtual 198, 3, (289, 3, 2, 12), 422) := rfl
theorem s287_27 {c : Nat → List AV → SS → Option Out} {l0 l1 l2 l3 : Option AV} {a0 : Int32} {a1 : Int32} {a2 : Int32} {j t : Nat} {L2 : List (Nat × AV)} {S : SS} : ev c 287 27 [l0, l1, l2, l3] L2 [aI a2, aI a1, aI a0, aR (12, j, t)] S = ck (c 289 [aR (12, j, t), aI a0, aI a1, aI a2] S) (fun v S' => ev c 287 30 [l0, l1, l2, l3] L2 (v.toList ++ []) S') := ev_call i287_27 rfl
theorem i287_30 : insAt 287 30 = some (.istore_n 3, 1, (0, 0, 0, 0), 0) := rfl
theorem s287_30 {c : Nat → List AV → SS → Option Out} {l0 l1 l2 l3 : Option AV} {x : Int32} {L2 : List (Nat × AV)} {St : List AV} {S : SS} : ev c 287 30 [l0, l1, l2, l3] L2 (aI x :: St) S = ev c 287 31 [l0, l1, l2, some (aI x)] (kil L2 3) St S := ev_go i287_30 rfl
theorem i287_31 : insAt 287 31 = some (.aload_n 0, 1, (0, 0, 0, 0), 0) := rfl
theorem s287_31 {c : Nat → List AV → SS → Option Out} {l1 l2 l3 : Option AV} {o : OId} {L2 : List (Nat × AV)} {St : List AV} {S : SS} : ev c 287 31 [some (aR o), l1, l2, l3] L2 St S = ev c 287 32 [some (aR o), l1, l2, l3] L2 (aR o :: St) S := ev_go i287_31 rfl
theorem i287_32 : insAt 287 32 = some (.iload_n 3, 1, (0, 0, 0, 0), 0) := rfl
theorem s287_32 {c : Nat → List AV → SS → Option Out} {l0 l1 l2 : Option AV} {x : Int32} {L2 : List (Nat × AV)} {St : List AV} {S : SS} : ev c 287 32 [l0, l1, l2, some (aI x)] L2 St S = ev c 287 33 [l0, l1, l2, some (aI x)] L2 (aI x :: St) S := ev_go i287_32 rfl
theorem i287_33 : insAt 287 33 = some (.ifCond .ge 7, 3, (0, 0, 0, 0), 0) := rfl
theorem s287_33 {c : Nat → List AV → SS → Option Out} {l0 l1 l2 l3 : Option AV} {x : Int32} {L2 : List (Nat × AV)} {St : List AV} {S : SS} : ev c 287 33 [l0, l1, l2, l3] L2 (aI x :: St) S = if 0 ≤ x then ev c 287 40 [l0, l1, l2, l3] L2 St S else ev c 287 36 [l0, l1, l2, l3] L2 St S := ev_br i287_33 rfl
theorem i287_36 : insAt 287 36 = some (.iconst 4, 1, (0, 0, 0, 0), 0) := rfl
theorem s287_36 {c : Nat → List AV → SS → Option Out} {l0 l1 l2 l3 : Option AV} {L2 : List (Nat × AV)} {St : List AV} {S : SS} : ev c 287 36 [l0, l1, l2, l3] L2 St S = ev c 287 37 [l0, l1, l2, l3] L2 (aI 4 :: St) S := ev_go i287_36 rfl
theorem i287_37 : insAt 287 37 = some (.goto 4, 3, (0, 0, 0, 0), 0) := rfl
theorem s287_37 {c : Nat → List AV → SS → Option Out} {l0 l1 l2 l3 : Option AV} {L2 : List (Nat × AV)} {St : List AV} {S : SS} : ev c 287 37 [l0, l1, l2, l3] L2 St S = ev c 287 41 [l0, l1, l2, l3] L2 St S := ev_go i287_37 rfl
theorem i287_40 : insAt 287 40 = some (.iconst 0, 1, (0, 0, 0, 0), 0) := rfl
theorem s287_40 {c : Nat → List AV → SS → Option Out} {l0 l1 l2 l3 : Option AV} {L2 : List (Nat × AV)} {St : List AV} {S : SS} : ev c 287 40 [l0, l1, l2, l3] L2 St S = ev c 287 41 [l0, l1, l2, l3] L2 (aI 0 :: St) S := ev_go i287_40 rfl
theorem i287_41 : insAt 287 41 = some (.putfield 31, 3, (12, 7, 0, 0), 371) := rfl
theorem s287_41 {c : Nat → List AV → SS → Option Out} {l0 l1 l2 l3 : Option AV} {j t : Nat} {x : Int32} {L2 : List (Nat × AV)} {St : List AV} {S : SS} : ev c 287 41 [l0, l1, l2, l3] L2 (aI x :: aR (12, j, t) :: St) S = ev c 287 44 [l0, l1, l2, l3] L2 St (setI S.1 (12, j, t) 7 x, S.2) := ev_go i287_41 rfl
theorem i287_44 : insAt 287 44 = some (.iload_n 3, 1, (0, 0, 0, 0), 0) := rfl
theorem s287_44 {c : Nat → List AV → SS → Option Out} {l0 l1 l2 : Option AV} {x : Int32} {L2 : List (Nat × AV)} {St : List AV} {S : SS} : ev c 287 44 [l0, l1, l2, some (aI x)] L2 St S = ev c 287 45 [l0, l1, l2, some (aI x)] L2 (aI x :: St) S := ev_go i287_44 rfl
theorem i287_45 : insAt 287 45 = some (.ireturn, 1, (0, 0, 0, 0), 0) := rfl
theorem s287_45 {c : Nat → List AV → SS → Option Out} {l0 l1 l2 l3 : Option AV} {x : Int32} {L2 : List (Nat × AV)} {S : SS} : ev c 287 45 [l0, l1, l2, l3] L2 [aI x] S = some (.inl (some (aI x)), S) := ev_end i287_45 rfl
theorem m287 {d : Nat} {o : OId} {a0 : Int32} {a1 : Int32} {S : SS} : evm (d + 1) 287 [aR o, aI a0, aI a1] S = ev (evm d) 287 0 [some (aR o), some (aI a0), some (aI a1), none] [] [] S := evm_s (n := 4) rfl (Nat.le_of_ble_eq_true rfl) rfl rfl
/-! FrequencyOfficeModel.wrongChange(II)I -/
theorem i288_0 : insAt 288 0 = some (.aload_n 0, 1, (0, 0, 0, 0), 0) := rfl
theorem s288_0 {c : Nat → List AV → SS → Option Out} {l1 l2 : Option AV} {o : OId} {L2 : List (Nat × AV)} {St : List AV} {S : SS} : ev c 288 0 [some (aR o), l1, l2] L2 St S = ev c 288 1 [some (aR o), l1, l2] L2 (aR o :: St) S := ev_go i288_0 rfl
theorem i288_1 : insAt 288 1 = some (.iload_n 1, 1, (0, 0, 0, 0), 0) := rfl
theorem s288_1 {c : Nat → List AV → SS → Option Out} {l0 l2 : Option AV} {x : Int32} {L2 : List (Nat × AV)} {St : List AV} {S : SS} : ev c 288 1 [l0, some (aI x), l2] L2 St S = ev c 288 2 [l0, some (aI x), l2] L2 (aI x :: St) S := ev_go i288_1 rfl
theorem i288_2 : insAt 288 2 = some (.invokevirtual 173, 3, (253, 1, 2, 12), 414) := rfl
theorem s288_2 {c : Nat → List AV → SS → Option Out} {l0 l1 l2 : Option AV} {a0 : Int32} {j t : Nat} {L2 : List (Nat × AV)} {S : SS} : ev c 288 2 [l0, l1, l2] L2 [aI a0, aR (12, j, t)] S = ck (c 253 [aR (12, j, t), aI a0] S) (fun v S' => ev c 288 5 [l0, l1, l2] L2 (v.toList ++ []) S') := ev_call i288_2 rfl
theorem i288_5 : insAt 288 5 = some (.ifCond .ge 7, 3, (0, 0, 0, 0), 0) := rfl
theorem s288_5 {c : Nat → List AV → SS → Option Out} {l0 l1 l2 : Option AV} {x : Int32} {L2 : List (Nat × AV)} {St : List AV} {S : SS} : ev c 288 5 [l0, l1, l2] L2 (aI x :: St) S = if 0 ≤ x then ev c 288 12 [l0, l1, l2] L2 St S else ev c 288 8 [l0, l1, l2] L2 St S := ev_br i288_5 rfl
theorem i288_8 : insAt 288 8 = some (.iconst 1, 1, (0, 0, 0, 0), 0) := rfl
theorem s288_8 {c : Nat → List AV → SS → Option Out} {l0 l1 l2 : Option AV} {L2 : List (Nat × AV)} {St : List AV} {S : SS} : ev c 288 8 [l0, l1, l2] L2 St S = ev c 288 9 [l0, l1, l2] L2 (aI 1 :: St) S := ev_go i288_8 rfl
theorem i288_9 : insAt 288 9 = some (.goto 48, 3, (0, 0, 0, 0), 0) := rfl
theorem s288_9 {c : Nat → List AV → SS → Option Out} {l0 l1 l2 : Option AV} {L2 : List (Nat × AV)} {St : List AV} {S : SS} : ev c 288 9 [l0, l1, l2] L2 St S = ev c 288 57 [l0, l1, l2] L2 St S := ev_go i288_9 rfl
theorem i288_12 : insAt 288 12 = some (.iload_n 2, 1, (0, 0, 0, 0), 0) := rfl
theorem s288_12 {c : Nat → List AV → SS → Option Out} {l0 l1 : Option AV} {x : Int32} {L2 : List (Nat × AV)} {St : List AV} {S : SS} : ev c 288 12 [l0, l1, some (aI x)] L2 St S = ev c 288 13 [l0, l1, some (aI x)] L2 (aI x :: St) S := ev_go i288_12 rfl
theorem i288_13 : insAt 288 13 = some (.iconst 0, 1, (0, 0, 0, 0), 0) := rfl
theorem s288_13 {c : Nat → List AV → SS → Option Out} {l0 l1 l2 : Option AV} {L2 : List (Nat × AV)} {St : List AV} {S : SS} : ev c 288 13 [l0, l1, l2] L2 St S = ev c 288 14 [l0, l1, l2] L2 (aI 0 :: St) S := ev_go i288_13 rfl
theorem i288_14 : insAt 288 14 = some (.bipush 7, 2, (0, 0, 0, 0), 0) := rfl
theorem s288_14 {c : Nat → List AV → SS → Option Out} {l0 l1 l2 : Option AV} {L2 : List (Nat × AV)} {St : List AV} {S : SS} : ev c 288 14 [l0, l1, l2] L2 St S = ev c 288 16 [l0, l1, l2] L2 (aI 7 :: St) S := ev_go i288_14 rfl
theorem i288_16 : insAt 288 16 = some (.invokestatic 154, 3, (225, 3, 0, 0), 388) := rfl
theorem s288_16 {c : Nat → List AV → SS → Option Out} {l0 l1 l2 : Option AV} {a0 : Int32} {a1 : Int32} {a2 : Int32} {L2 : List (Nat × AV)} {S : SS} : ev c 288 16 [l0, l1, l2] L2 [aI a2, aI a1, aI a0] S = ck (c 225 [aI a0, aI a1, aI a2] S) (fun v S' => ev c 288 19 [l0, l1, l2] L2 (v.toList ++ []) S') := ev_call i288_16 rfl
theorem i288_19 : insAt 288 19 = some (.ifCond .ne 7, 3, (0, 0, 0, 0), 0) := rfl
theorem s288_19 {c : Nat → List AV → SS → Option Out} {l0 l1 l2 : Option AV} {x : Int32} {L2 : List (Nat × AV)} {St : List AV} {S : SS} : ev c 288 19 [l0, l1, l2] L2 (aI x :: St) S = if x = 0 then ev c 288 22 [l0, l1, l2] L2 St S else ev c 288 26 [l0, l1, l2] L2 St S := (ev_br i288_19 rfl).trans (ite_not _ _ _)
theorem i288_22 : insAt 288 22 = some (.iconst 2, 1, (0, 0, 0, 0), 0) := rfl
theorem s288_22 {c : Nat → List AV → SS → Option Out} {l0 l1 l2 : Option AV} {L2 : List (Nat × AV)} {St : List AV} {S : SS} : ev c 288 22 [l0, l1, l2] L2 St S = ev c 288 23 [l0, l1, l2] L2 (aI 2 :: St) S := ev_go i288_22 rfl
theorem i288_23 : insAt 288 23 = some (.goto 34, 3, (0, 0, 0, 0), 0) := rfl
theorem s288_23 {c : Nat → List AV → SS → Option Out} {l0 l1 l2 : Option AV} {L2 : List (Nat × AV)} {St : List AV} {S : SS} : ev c 288 23 [l0, l1, l2] L2 St S = ev c 288 57 [l0, l1, l2] L2 St S := ev_go i288_23 rfl
theorem i288_26 : insAt 288 26 = some (.aload_n 0, 1, (0, 0, 0, 0), 0) := rfl
theorem s288_26 {c : Nat → List AV → SS → Option Out} {l1 l2 : Option AV} {o : OId} {L2 : List (Nat × AV)} {St : List AV} {S : SS} : ev c 288 26 [some (aR o), l1, l2] L2 St S = ev c 288 27 [some (aR o), l1, l2] L2 (aR o :: St) S := ev_go i288_26 rfl
theorem i288_27 : insAt 288 27 = some (.aload_n 0, 1, (0, 0, 0, 0), 0) := rfl
theorem s288_27 {c : Nat → List AV → SS → Option Out} {l1 l2 : Option AV} {o : OId} {L2 : List (Nat × AV)} {St : List AV} {S : SS} : ev c 288 27 [some (aR o), l1, l2] L2 St S = ev c 288 28 [some (aR o), l1, l2] L2 (aR o :: St) S := ev_go i288_27 rfl
theorem i288_28 : insAt 288 28 = some (.iload_n 1, 1, (0, 0, 0, 0), 0) := rfl
theorem s288_28 {c : Nat → List AV → SS → Option Out} {l0 l2 : Option AV} {x : Int32} {L2 : List (Nat × AV)} {St : List AV} {S : SS} : ev c 288 28 [l0, some (aI x), l2] L2 St S = ev c 288 29 [l0, some (aI x), l2] L2 (aI x :: St) S := ev_go i288_28 rfl
theorem i288_29 : insAt 288 29 = some (.invokevirtual 173, 3, (253, 1, 2, 12), 414) := rfl
theorem s288_29 {c : Nat → List AV → SS → Option Out} {l0 l1 l2 : Option AV} {t0 : AV} {a0 : Int32} {j t : Nat} {L2 : List (Nat × AV)} {S : SS} : ev c 288 29 [l0, l1, l2] L2 [aI a0, aR (12, j, t), t0] S = ck (c 253 [aR (12, j, t), aI a0] S) (fun v S' => ev c 288 32 [l0, l1, l2] L2 (v.toList ++ [t0]) S') := ev_call i288_29 rfl
theorem i288_32 : insAt 288 32 = some (.invokevirtual 115, 3, (230, 1, 2, 12), 400) := rfl
theorem s288_32 {c : Nat → List AV → SS → Option Out} {l0 l1 l2 : Option AV} {a0 : Int32} {j t : Nat} {L2 : List (Nat × AV)} {S : SS} : ev c 288 32 [l0, l1, l2] L2 [aI a0, aR (12, j, t)] S = ck (c 230 [aR (12, j, t), aI a0] S) (fun v S' => ev c 288 35 [l0, l1, l2] L2 (v.toList ++ []) S') := ev_call i288_32 rfl
theorem i288_35 : insAt 288 35 = some (.ifCond .eq 17, 3, (0, 0, 0, 0), 0) := rfl
theorem s288_35 {c : Nat → List AV → SS → Option Out} {l0 l1 l2 : Option AV} {x : Int32} {L2 : List (Nat × AV)} {St : List AV} {S : SS} : ev c 288 35 [l0, l1, l2] L2 (aI x :: St) S = if x = 0 then ev c 288 52 [l0, l1, l2] L2 St S else ev c 288 38 [l0, l1, l2] L2 St S := ev_br i288_35 rfl
theorem i288_38 : insAt 288 38 = some (.aload_n 0, 1, (0, 0, 0, 0), 0) := rfl
theorem s288_38 {c : Nat → List AV → SS → Option Out} {l1 l2 : Option AV} {o : OId} {L2 : List (Nat × AV)} {St : List AV} {S : SS} : ev c 288 38 [some (aR o), l1, l2] L2 St S = ev c 288 39 [some (aR o), l1, l2] L2 (aR o :: St) S := ev_go i288_38 rfl
theorem i288_39 : insAt 288 39 = some (.aload_n 0, 1, (0, 0, 0, 0), 0) := rfl
theorem s288_39 {c : Nat → List AV → SS → Option Out} {l1 l2 : Option AV} {o : OId} {L2 : List (Nat × AV)} {St : List AV} {S : SS} : ev c 288 39 [some (aR o), l1, l2] L2 St S = ev c 288 40 [some (aR o), l1, l2] L2 (aR o :: St) S := ev_go i288_39 rfl
theorem i288_40 : insAt 288 40 = some (.iload_n 1, 1, (0, 0, 0, 0), 0) := rfl
theorem s288_40 {c : Nat → List AV → SS → Option Out} {l0 l2 : Option AV} {x : Int32} {L2 : List (Nat × AV)} {St : List AV} {S : SS} : ev c 288 40 [l0, some (aI x), l2] L2 St S = ev c 288 41 [l0, some (aI x), l2] L2 (aI x :: St) S := ev_go i288_40 rfl
theorem i288_41 : insAt 288 41 = some (.invokevirtual 173, 3, (253, 1, 2, 12), 414) := rfl
theorem s288_41 {c : Nat → List AV → SS → Option Out} {l0 l1 l2 : Option AV} {t0 : AV} {a0 : Int32} {j t : Nat} {L2 : List (Nat × AV)} {S : SS} : ev c 288 41 [l0, l1, l2] L2 [aI a0, aR (12, j, t), t0] S = ck (c 253 [aR (12, j, t), aI a0] S) (fun v S' => ev c 288 44 [l0, l1, l2] L2 (v.toList ++ [t0]) S') := ev_call i288_41 rfl
theorem i288_44 : insAt 288 44 = some (.iconst 3, 1, (0, 0, 0, 0), 0) := rfl
theorem s288_44 {c : Nat → List AV → SS → Option Out} {l0 l1 l2 : Option AV} {L2 : List (Nat × AV)} {St : List AV} {S : SS} : ev c 288 44 [l0, l1, l2] L2 St S = ev c 288 45 [l0, l1, l2] L2 (aI 3 :: St) S := ev_go i288_44 rfl
theorem i288_45 : insAt 288 45 = some (.invokevirtual 75, 3, (231, 2, 2, 12), 396) := rfl
theorem s288_45 {c : Nat → List AV → SS → Option Out} {l0 l1 l2 : Option AV} {a0 : Int32} {a1 : Int32} {j t : Nat} {L2 : List (Nat × AV)} {S : SS} : ev c 288 45 [l0, l1, l2] L2 [aI a1, aI a0, aR (12, j, t)] S = ck (c 231 [aR (12, j, t), aI a0, aI a1] S) (fun v S' => ev c 288 48 [l0, l1, l2] L2 (v.toList ++ []) S') := ev_call i288_45 rfl
theorem i288_48 : insAt 288 48 = some (.iload_n 2, 1, (0, 0, 0, 0), 0) := rfl
theorem s288_48 {c : Nat → List AV → SS → Option Out} {l0 l1 : Option AV} {x : Int32} {L2 : List (Nat × AV)} {St : List AV} {S : SS} : ev c 288 48 [l0, l1, some (aI x)] L2 St S = ev c 288 49 [l0, l1, some (aI x)] L2 (aI x :: St) S := ev_go i288_48 rfl
theorem i288_49 : insAt 288 49 = some (.if_icmp .ne 7, 3, (0, 0, 0, 0), 0) := rfl
theorem s288_49 {c : Nat → List AV → SS → Option Out} {l0 l1 l2 : Option AV} {x y : Int32} {L2 : List (Nat × AV)} {St : List AV} {S : SS} : ev c 288 49 [l0, l1, l2] L2 (aI y :: aI x :: St) S = if x = y then ev c 288 52 [l0, l1, l2] L2 St S else ev c 288 56 [l0, l1, l2] L2 St S := (ev_br i288_49 rfl).trans (ite_not _ _ _)
theorem i288_52 : insAt 288 52 = some (.iconst 3, 1, (0, 0, 0, 0), 0) := rfl
theorem s288_52 {c : Nat → List AV → SS → Option Out} {l0 l1 l2 : Option AV} {L2 : List (Nat × AV)} {St : List AV} {S : SS} : ev c 288 52 [l0, l1, l2] L2 St S = ev c 288 53 [l0, l1, l2] L2 (aI 3 :: St) S := ev_go i288_52 rfl
theorem i288_53 : insAt 288 53 = some (.goto 4, 3, (0, 0, 0, 0), 0) := rfl
theorem s288_53 {c : Nat → List AV → SS → Option Out} {l0 l1 l2 : Option AV} {L2 : List (Nat × AV)} {St : List AV} {S : SS} : ev c 288 53 [l0, l1, l2] L2 St S = ev c 288 57 [l0, l1, l2] L2 St S := ev_go i288_53 rfl
theorem i288_56 : insAt 288 56 = some (.iconst 0, 1, (0, 0, 0, 0), 0) := rfl
theorem s288_56 {c : Nat → List AV → SS → Option Out} {l0 l1 l2 : Option AV} {L2 : List (Nat × AV)} {St : List AV} {S : SS} : ev c 288 56 [l0, l1, l2] L2 St S = ev c 288 57 [l0, l1, l2] L2 (aI 0 :: St) S := ev_go i288_56 rfl
theorem i288_57 : insAt 288 57 = some (.ireturn, 1, (0, 0, 0, 0), 0) := rfl
theorem s288_57 {c : Nat → List AV → SS → Option Out} {l0 l1 l2 : Option AV} {x : Int32} {L2 : List (Nat × AV)} {S : SS} : ev c 288 57 [l0, l1, l2] L2 [aI x] S = some (.inl (some (aI x)), S) := ev_end i288_57 rfl
theorem m288 {d : Nat} {o : OId} {a0 : Int32} {a1 : Int32} {S : SS} : evm (d + 1) 288 [aR o, aI a0, aI a1] S = ev (evm d) 288 0 [some (aR o), some (aI a0), some (aI a1)] [] [] S := evm_s (n := 3) rfl (Nat.le_of_ble_eq_true rfl) rfl rfl
/-! FrequencyOfficeModel.planForSlot(III)I -/
theorem i289_0 : insAt 289 0 = some (.aload_n 0, 1, (0, 0, 0, 0), 0) := rfl
theorem s289_0 {c : Nat → List AV → SS → Option Out} {l1 l2 l3 : Option AV} {o : OId} {L2 : List (Nat × AV)} {St : List AV} {S : SS} : ev c 289 0 [some (aR o), l1, l2, l3] L2 St S = ev c 289 1 [some (aR o), l1, l2, l3] L2 (aR o :: St) S := ev_go i289_0 rfl
theorem i289_1 : insAt 289 1 = some (.aload_n 0, 1, (0, 0, 0, 0), 0) := rfl
theorem s289_1 {c : Nat → List AV → SS → Option Out} {l1 l2 l3 : Option AV} {o : OId} {L2 : List (Nat × AV)} {St : List AV} {S : SS} : ev c 289 1 [some (aR o), l1, l2, l3] L2 St S = ev c 289 2 [some (aR o), l1, l2, l3] L2 (aR o :: St) S := ev_go i289_1 rfl
theorem i289_2 : insAt 289 2 = some (.iload_n 1, 1, (0, 0, 0, 0), 0) := rfl
theorem s289_2 {c : Nat → List AV → SS → Option Out} {l0 l2 l3 : Option AV} {x : Int32} {L2 : List (Nat × AV)} {St : List AV} {S : SS} : ev c 289 2 [l0, some (aI x), l2, l3] L2 St S = ev c 289 3 [l0, some (aI x), l2, l3] L2 (aI x :: St) S := ev_go i289_2 rfl
theorem i289_3 : insAt 289 3 = some (.iconst 1, 1, (0, 0, 0, 0), 0) := rfl
theorem s289_3 {c : Nat → List AV → SS → Option Out} {l0 l1 l2 l3 : Option AV} {L2 : List (Nat × AV)} {St : List AV} {S : SS} : ev c 289 3 [l0, l1, l2, l3] L2 St S = ev c 289 4 [l0, l1, l2, l3] L2 (aI 1 :: St) S := ev_go i289_3 rfl
theorem i289_4 : insAt 289 4 = some (.invokevirtual 75, 3, (231, 2, 2, 12), 396) := rfl
theorem s289_4 {c : Nat → List AV → SS → Option Out} {l0 l1 l2 l3 : Option AV} {t0 : AV} {a0 : Int32} {a1 : Int32} {j t : Nat} {L2 : List (Nat × AV)} {S : SS} : ev c 289 4 [l0, l1, l2, l3] L2 [aI a1, aI a0, aR (12, j, t), t0] S = ck (c 231 [aR (12, j, t), aI a0, aI a1] S) (fun v S' => ev c 289 7 [l0, l1, l2, l3] L2 (v.toList ++ [t0]) S') := ev_call i289_4 rfl
theorem i289_7 : insAt 289 7 = some (.aload_n 0, 1, (0, 0, 0, 0), 0) := rfl
theorem s289_7 {c : Nat → List AV → SS → Option Out} {l1 l2 l3 : Option AV} {o : OId} {L2 : List (Nat × AV)} {St : List AV} {S : SS} : ev c 289 7 [some (aR o), l1, l2, l3] L2 St S = ev c 289 8 [some (aR o), l1, l2, l3] L2 (aR o :: St) S := ev_go i289_7 rfl
theorem i289_8 : insAt 289 8 = some (.iload_n 1, 1, (0, 0, 0, 0), 0) := rfl
theorem s289_8 {c : Nat → List AV → SS → Option Out} {l0 l2 l3 : Option AV} {x : Int32} {L2 : List (Nat × AV)} {St : List AV} {S : SS} : ev c 289 8 [l0, some (aI x), l2, l3] L2 St S = ev c 289 9 [l0, some (aI x), l2, l3] L2 (aI x :: St) S := ev_go i289_8 rfl
theorem i289_9 : insAt 289 9 = some (.iconst 2, 1, (0, 0, 0, 0), 0) := rfl
theorem s289_9 {c : Nat → List AV → SS → Option Out} {l0 l1 l2 l3 : Option AV} {L2 : List (Nat × AV)} {St : List AV} {S : SS} : ev c 289 9 [l0, l1, l2, l3] L2 St S = ev c 289 10 [l0, l1, l2, l3] L2 (aI 2 :: St) S := ev_go i289_9 rfl
theorem i289_10 : insAt 289 10 = some (.invokevirtual 75, 3, (231, 2, 2, 12), 396) := rfl
theorem s289_10 {c : Nat → List AV → SS → Option Out} {l0 l1 l2 l3 : Option AV} {t0 t1 : AV} {a0 : Int32} {a1 : Int32} {j t : Nat} {L2 : List (Nat × AV)} {S : SS} : ev c 289 10 [l0, l1, l2, l3] L2 [aI a1, aI a0, aR (12, j, t), t0, t1] S = ck (c 231 [aR (12, j, t), aI a0, aI a1] S) (fun v S' => ev c 289 13 [l0, l1, l2, l3] L2 (v.toList ++ [t0, t1]) S') := ev_call i289_10 rfl
theorem i289_13 : insAt 289 13 = some (.iload_n 1, 1, (0, 0, 0, 0), 0) := rfl
theorem s289_13 {c : Nat → List AV → SS → Option Out} {l0 l2 l3 : Option AV} {x : Int32} {L2 : List (Nat × AV)} {St : List AV} {S : SS} : ev c 289 13 [l0, some (aI x), l2, l3] L2 St S = ev c 289 14 [l0, some (aI x), l2, l3] L2 (aI x :: St) S := ev_go i289_13 rfl
theorem i289_14 : insAt 289 14 = some (.iload_n 2, 1, (0, 0, 0, 0), 0) := rfl
theorem s289_14 {c : Nat → List AV → SS → Option Out} {l0 l1 l3 : Option AV} {x : Int32} {L2 : List (Nat × AV)} {St : List AV} {S : SS} : ev c 289 14 [l0, l1, some (aI x), l3] L2 St S = ev c 289 15 [l0, l1, some (aI x), l3] L2 (aI x :: St) S := ev_go i289_14 rfl
theorem i289_15 : insAt 289 15 = some (.iload_n 3, 1, (0, 0, 0, 0), 0) := rfl
theorem s289_15 {c : Nat → List AV → SS → Option Out} {l0 l1 l2 : Option AV} {x : Int32} {L2 : List (Nat × AV)} {St : List AV} {S : SS} : ev c 289 15 [l0, l1, l2, some (aI x)] L2 St S = ev c 289 16 [l0, l1, l2, some (aI x)] L2 (aI x :: St) S := ev_go i289_15 rfl
theorem i289_16 : insAt 289 16 = some (.invokevirtual 140, 3, (226, 5, 2, 12), 389) := rfl
theorem s289_16 {c : Nat → List AV → SS → Option Out} {l0 l1 l2 l3 : Option AV} {a0 : Int32} {a1 : Int32} {a2 : Int32} {a3 : Int32} {a4 : Int32} {j t : Nat} {L2 : List (Nat × AV)} {S : SS} : ev c 289 16 [l0, l1, l2, l3] L2 [aI a4, aI a3, aI a2, aI a1, aI a0, aR (12, j, t)] S = ck (c 226 [aR (12, j, t), aI a0, aI a1, aI a2, aI a3, aI a4] S) (fun v S' => ev c 289 19 [l0, l1, l2, l3] L2 (v.toList ++ []) S') := ev_call i289_16 rfl
theorem i289_19 : insAt 289 19 = some (.ireturn, 1, (0, 0, 0, 0), 0) := rfl
theorem s289_19 {c : Nat → List AV → SS → Option Out} {l0 l1 l2 l3 : Option AV} {x : Int32} {L2 : List (Nat × AV)} {S : SS} : ev c 289 19 [l0, l1, l2, l3] L2 [aI x] S = some (.inl (some (aI x)), S) := ev_end i289_19 rfl
theorem m289 {d : Nat} {o : OId} {a0 : Int32} {a1 : Int32} {a2 : Int32} {S : SS} : evm (d + 1) 289 [aR o, aI a0, aI a1, aI a2] S = ev (evm d) 289 0 [some (aR o), some (aI a0), some (aI a1), some (aI a2)] [] [] S := evm_s (n := 4) rfl (Nat.le_of_ble_eq_true rfl) rfl rfl
/-! FrequencyOfficeModel.movesToChangeByQueue(II)I -/
theorem i290_0 : insAt 290 0 = some (.aload_n 0, 1, (0, 0, 0, 0), 0) := rfl
theorem s290_0 {c : Nat → List AV → SS → Option Out} {l1 l2 : Option AV} {o : OId} {L2 : List (Nat × AV)} {St : List AV} {S : SS} : ev c 290 0 [some (aR o), l1, l2] L2 St S = ev c 290 1 [some (aR o), l1, l2] L2 (aR o :: St) S := ev_go i290_0 rfl
theorem i290_1 : insAt 290 1 = some (.iload_n 1, 1, (0, 0, 0, 0), 0) := rfl
theorem s290_1 {c : Nat → List AV → SS → Option Out} {l0 l2 : Option AV} {x : Int32} {L2 : List (Nat × AV)} {St : List AV} {S : SS} : ev c 290 1 [l0, some (aI x), l2] L2 St S = ev c 290 2 [l0, some (aI x), l2] L2 (aI x :: St) S := ev_go i290_1 rfl
theorem i290_2 : insAt 290 2 = some (.iload_n 2, 1, (0, 0, 0, 0), 0) := rfl
theorem s290_2 {c : Nat → List AV → SS → Option Out} {l0 l1 : Option AV} {x : Int32} {L2 : List (Nat × AV)} {St : List AV} {S : SS} : ev c 290 2 [l0, l1, some (aI x)] L2 St S = ev c 290 3 [l0, l1, some (aI x)] L2 (aI x :: St) S := ev_go i290_2 rfl
theorem i290_3 : insAt 290 3 = some (.invokevirtual 201, 3, (287, 2, 2, 12), 423) := rfl
theorem s290_3 {c : Nat → List AV → SS → Option Out} {l0 l1 l2 : Option AV} {a0 : Int32} {a1 : Int32} {j t : Nat} {L2 : List (Nat × AV)} {S : SS} : ev c 290 3 [l0, l1, l2] L2 [aI a1, aI a0, aR (12, j, t)] S = ck (c 287 [aR (12, j, t), aI a0, aI a1] S) (fun v S' => ev c 290 6 [l0, l1, l2] L2 (v.toList ++ []) S') := ev_call i290_3 rfl
theorem i290_6 : insAt 290 6 = some (.ireturn, 1, (0, 0, 0, 0), 0) := rfl
theorem s290_6 {c : Nat → List AV → SS → Option Out} {l0 l1 l2 : Option AV} {x : Int32} {L2 : List (Nat × AV)} {S : SS} : ev c 290 6 [l0, l1, l2] L2 [aI x] S = some (.inl (some (aI x)), S) := ev_end i290_6 rfl
theorem m290 {d : Nat} {o : OId} {a0 : Int32} {a1 : Int32} {S : SS} : evm (d + 1) 290 [aR o, aI a0, aI a1] S = ev (evm d) 290 0 [some (aR o), some (aI a0), some (aI a1)] [] [] S := evm_s (n := 3) rfl (Nat.le_of_ble_eq_true rfl) rfl rfl
/-! FrequencyOfficeModel.change(II)I -/
theorem i291_0 : insAt 291 0 = some (.aload_n 0, 1, (0, 0, 0, 0), 0) := rfl
theorem s291_0 {c : Nat → List AV → SS → Option Out} {l1 l2 l3 : Option AV} {o : OId} {L2 : List (Nat × AV)} {St : List AV} {S : SS} : ev c 291 0 [some (aR o), l1, l2, l3] L2 St S = ev c 291 1 [some (aR o), l1, l2, l3] L2 (aR o :: St) S := ev_go i291_0 rfl
theorem i291_1 : insAt 291 1 = some (.aload_n 0, 1, (0, 0, 0, 0), 0) := rfl
theorem s291_1 {c : Nat → List AV → SS → Option Out} {l1 l2 l3 : Option AV} {o : OId} {L2 : List (Nat × AV)} {St : List AV} {S : SS} : ev c 291 1 [some (aR o), l1, l2, l3] L2 St S = ev c 291 2 [some (aR o), l1, l2, l3] L2 (aR o :: St) S := ev_go i291_1 rfl
theorem i291_2 : insAt 291 2 = some (.iload_n 1, 1, (0, 0, 0, 0), 0) := rfl
theorem s291_2 {c : Nat → List AV → SS → Option Out} {l0 l2 l3 : Option AV} {x : Int32} {L2 : List (Nat × AV)} {St : List AV} {S : SS} : ev c 291 2 [l0, some (aI x), l2, l3] L2 St S = ev c 291 3 [l0, some (aI x), l2, l3] L2 (aI x :: St) S := ev_go i291_2 rfl
theorem i291_3 : insAt 291 3 = some (.iload_n 2, 1, (0, 0, 0, 0), 0) := rfl
theorem s291_3 {c : Nat → List AV → SS → Option Out} {l0 l1 l3 : Option AV} {x : Int32} {L2 : List (Nat × AV)} {St : List AV} {S : SS} : ev c 291 3 [l0, l1, some (aI x), l3] L2 St S = ev c 291 4 [l0, l1, some (aI x), l3] L2 (aI x :: St) S := ev_go i291_3 rfl
theorem i291_4 : insAt 291 4 = some (.invokevirtual 195, 3, (288, 2, 2, 12), 421) := rfl
theorem s291_4 {c : Nat → List AV → SS → Option Out} {l0 l1 l2 l3 : Option AV} {t0 : AV} {a0 : Int32} {a1 : Int32} {j t : Nat} {L2 : List (Nat × AV)} {S : SS} : ev c 291 4 [l0, l1, l2, l3] L2 [aI a1, aI a0, aR (12, j, t), t0] S = ck (c 288 [aR (12, j, t), aI a0, aI a1] S) (fun v S' => ev c 291 7 [l0, l1, l2, l3] L2 (v.toList ++ [t0]) S') := ev_call i291_4 rfl
theorem i291_7 : insAt 291 7 = some (.putfield 31, 3, (12, 7, 0, 0), 371) := rfl
theorem s291_7 {c : Nat → List AV → SS → Option Out} {l0 l1 l2 l3 : Option AV} {j t : Nat} {x : Int32} {L2 : List (Nat × AV)} {St : List AV} {S : SS} : ev c 291 7 [l0, l1, l2, l3] L2 (aI x :: aR (12, j, t) :: St) S = ev c 291 10 [l0, l1, l2, l3] L2 St (setI S.1 (12, j, t) 7 x, S.2) := ev_go i291_7 rfl
theorem i291_10 : insAt 291 10 = some (.aload_n 0, 1, (0, 0, 0, 0), 0) := rfl
theorem s291_10 {c : Nat → List AV → SS → Option Out} {l1 l2 l3 : Option AV} {o : OId} {L2 : List (Nat × AV)} {St : List AV} {S : SS} : ev c 291 10 [some (aR o), l1, l2, l3] L2 St S = ev c 291 11 [some (aR o), l1, l2, l3] L2 (aR o :: St) S := ev_go i291_10 rfl
theorem i291_11 : insAt 291 11 = some (.getfield 31, 3, (12, 7, 0, 0), 371) := rfl
theorem s291_11 {c : Nat → List AV → SS → Option Out} {l0 l1 l2 l3 : Option AV} {j t : Nat} {L2 : List (Nat × AV)} {St : List AV} {S : SS} : ev c 291 11 [l0, l1, l2, l3] L2 (aR (12, j, t) :: St) S = ev c 291 14 [l0, l1, l2, l3] L2 (aI (S.1 (12, j, t) 7) :: St) S := ev_go i291_11 rfl
theorem i291_14 : insAt 291 14 = some (.ifCond .le 5, 3, (0, 0, 0, 0), 0) := rfl
theorem s291_14 {c : Nat → List AV → SS → Option Out} {l0 l1 l2 l3 : Option AV} {x : Int32} {L2 : List (Nat × AV)} {St : List AV} {S : SS} : ev c 291 14 [l0, l1, l2, l3] L2 (aI x :: St) S = if x ≤ 0 then ev c 291 19 [l0, l1, l2, l3] L2 St S else ev c 291 17 [l0, l1, l2, l3] L2 St S := ev_br i291_14 rfl
theorem i291_17 : insAt 291 17 = some (.iconst 0, 1, (0, 0, 0, 0), 0) := rfl
theorem s291_17 {c : Nat → List AV → SS → Option Out} {l0 l1 l2 l3 : Option AV} {L2 : List (Nat × AV)} {St : List AV} {S : SS} : ev c 291 17 [l0, l1, l2, l3] L2 St S = ev c 291 18 [l0, l1, l2, l3] L2 (aI 0 :: St) S := ev_go i291_17 rfl
theorem i291_18 : insAt 291 18 = some (.ireturn, 1, (0, 0, 0, 0), 0) := rfl
theorem s291_18 {c : Nat → List AV → SS → Option Out} {l0 l1 l2 l3 : Option AV} {x : Int32} {L2 : List (Nat × AV)} {S : SS} : ev c 291 18 [l0, l1, l2, l3] L2 [aI x] S = some (.inl (some (aI x)), S) := ev_end i291_18 rfl
theorem i291_19 : insAt 291 19 = some (.aload_n 0, 1, (0, 0, 0, 0), 0) := rfl
theorem s291_19 {c : Nat → List AV → SS → Option Out} {l1 l2 l3 : Option AV} {o : OId} {L2 : List (Nat × AV)} {St : List AV} {S : SS} : ev c 291 19 [some (aR o), l1, l2, l3] L2 St S = ev c 291 20 [some (aR o), l1, l2, l3] L2 (aR o :: St) S := ev_go i291_19 rfl
theorem i291_20 : insAt 291 20 = some (.aload_n 0, 1, (0, 0, 0, 0), 0) := rfl
theorem s291_20 {c : Nat → List AV → SS → Option Out} {l1 l2 l3 : Option AV} {o : OId} {L2 : List (Nat × AV)} {St : List AV} {S : SS} : ev c 291 20 [some (aR o), l1, l2, l3] L2 St S = ev c 291 21 [some (aR o), l1, l2, l3] L2 (aR o :: St) S := ev_go i291_20 rfl
theorem i291_21 : insAt 291 21 = some (.iload_n 1, 1, (0, 0, 0, 0), 0) := rfl
theorem s291_21 {c : Nat → List AV → SS → Option Out} {l0 l2 l3 : Option AV} {x : Int32} {L2 : List (Nat × AV)} {St : List AV} {S : SS} : ev c 291 21 [l0, some (aI x), l2, l3] L2 St S = ev c 291 22 [l0, some (aI x), l2, l3] L2 (aI x :: St) S := ev_go i291_21 rfl
theorem i291_22 : insAt 291 22 = some (.invokevirtual 173, 3, (253, 1, 2, 12), 414) := rfl
theorem s291_22 {c : Nat → List AV → SS → Option Out} {l0 l1 l2 l3 : Option AV} {t0 : AV} {a0 : Int32} {j t : Nat} {L2 : List (Nat × AV)} {S : SS} : ev c 291 22 [l0, l1, l2, l3] L2 [aI a0, aR (12, j, t), t0] S = ck (c 253 [aR (12, j, t), aI a0] S) (fun v S' => ev c 291 25 [l0, l1, l2, l3] L2 (v.toList ++ [t0]) S') := ev_call i291_22 rfl
theorem i291_25 : insAt 291 25 = some (.iload_n 2, 1, (0, 0, 0, 0), 0) := rfl
theorem s291_25 {c : Nat → List AV → SS → Option Out} {l0 l1 l3 : Option AV} {x : Int32} {L2 : List (Nat × AV)} {St : List AV} {S : SS} : ev c 291 25 [l0, l1, some (aI x), l3] L2 St S = ev c 291 26 [l0, l1, some (aI x), l3] L2 (aI x :: St) S := ev_go i291_25 rfl
theorem i291_26 : insAt 291 26 = some (.iconst (-1), 1, (0, 0, 0, 0), 0) := rfl
theorem s291_26 {c : Nat → List AV → SS → Option Out} {l0 l1 l2 l3 : Option AV} {L2 : List (Nat × AV)} {St : List AV} {S : SS} : ev c 291 26 [l0, l1, l2, l3] L2 St S = ev c 291 27 [l0, l1, l2, l3] L2 (aI (-1) :: St) S := ev_go i291_26 rfl
theorem i291_27 : insAt 291 27 = some (.invokevirtual 198, 3, (289, 3, 2, 12), 422) := rfl
theorem s291_27 {c : Nat → List AV → SS → Option Out} {l0 l1 l2 l3 : Option AV} {a0 : Int32} {a1 : Int32} {a2 : Int32} {j t : Nat} {L2 : List (Nat × AV)} {S : SS} : ev c 291 27 [l0, l1, l2, l3] L2 [aI a2, aI a1, aI a0, aR (12, j, t)] S = ck (c 289 [aR (12, j, t), aI a0, aI a1, aI a2] S) (fun v S' => ev c 291 30 [l0, l1, l2, l3] L2 (v.toList ++ []) S') := ev_call i291_27 rfl
theorem i291_30 : insAt 291 30 = some (.istore_n 3, 1, (0, 0, 0, 0), 0) := rfl
theorem s291_30 {c : Nat → List AV → SS → Option Out} {l0 l1 l2 l3 : Option AV} {x : Int32} {L2 : List (Nat × AV)} {St : List AV} {S : SS} : ev c 291 30 [l0, l1, l2, l3] L2 (aI x :: St) S = ev c 291 31 [l0, l1, l2, some (aI x)] (kil L2 3) St S := ev_go i291_30 rfl
theorem i291_31 : insAt 291 31 = some (.aload_n 0, 1, (0, 0, 0, 0), 0) := rfl
theorem s291_31 {c : Nat → List AV → SS → Option Out} {l1 l2 l3 : Option AV} {o : OId} {L2 : List (Nat × AV)} {St : List AV} {S : SS} : ev c 291 31 [some (aR o), l1, l2, l3] L2 St S = ev c 291 32 [some (aR o), l1, l2, l3] L2 (aR o :: St) S := ev_go i291_31 rfl
theorem i291_32 : insAt 291 32 = some (.iload_n 3, 1, (0, 0, 0, 0), 0) := rfl
theorem s291_32 {c : Nat → List AV → SS → Option Out} {l0 l1 l2 : Option AV} {x : Int32} {L2 : List (Nat × AV)} {St : List AV} {S : SS} : ev c 291 32 [l0, l1, l2, some (aI x)] L2 St S = ev c 291 33 [l0, l1, l2, some (aI x)] L2 (aI x :: St) S := ev_go i291_32 rfl
theorem i291_33 : insAt 291 33 = some (.ifCond .ge 7, 3, (0, 0, 0, 0), 0) := rfl
theorem s291_33 {c : Nat → List AV → SS → Option Out} {l0 l1 l2 l3 : Option AV} {x : Int32} {L2 : List (Nat × AV)} {St : List AV} {S : SS} : ev c 291 33 [l0, l1, l2, l3] L2 (aI x :: St) S = if 0 ≤ x then ev c 291 40 [l0, l1, l2, l3] L2 St S else ev c 291 36 [l0, l1, l2, l3] L2 St S := ev_br i291_33 rfl
theorem i291_36 : insAt 291 36 = some (.iconst 4, 1, (0, 0, 0, 0), 0) := rfl
theorem s291_36 {c : Nat → List AV → SS → Option Out} {l0 l1 l2 l3 : Option AV} {L2 : List (Nat × AV)} {St : List AV} {S : SS} : ev c 291 36 [l0, l1, l2, l3] L2 St S = ev c 291 37 [l0, l1, l2, l3] L2 (aI 4 :: St) S := ev_go i291_36 rfl
theorem i291_37 : insAt 291 37 = some (.goto 4, 3, (0, 0, 0, 0), 0) := rfl
theorem s291_37 {c : Nat → List AV → SS → Option Out} {l0 l1 l2 l3 : Option AV} {L2 : List (Nat × AV)} {St : List AV} {S : SS} : ev c 291 37 [l0, l1, l2, l3] L2 St S = ev c 291 41 [l0, l1, l2, l3] L2 St S := ev_go i291_37 rfl
theorem i291_40 : insAt 291 40 = some (.iconst 0, 1, (0, 0, 0, 0), 0) := rfl
theorem s291_40 {c : Nat → List AV → SS → Option Out} {l0 l1 l2 l3 : Option AV} {L2 : List (Nat × AV)} {St : List AV} {S : SS} : ev c 291 40 [l0, l1, l2, l3] L2 St S = ev c 291 41 [l0, l1, l2, l3] L2 (aI 0 :: St) S := ev_go i291_40 rfl
theorem i291_41 : insAt 291 41 = some (.putfield 31, 3, (12, 7, 0, 0), 371) := rfl
theorem s291_41 {c : Nat → List AV → SS → Option Out} {l0 l1 l2 l3 : Option AV} {j t : Nat} {x : Int32} {L2 : List (Nat × AV)} {St : List AV} {S : SS} : ev c 291 41 [l0, l1, l2, l3] L2 (aI x :: aR (12, j, t) :: St) S = ev c 291 44 [l0, l1, l2, l3] L2 St (setI S.1 (12, j, t) 7 x, S.2) := ev_go i291_41 rfl
theorem i291_44 : insAt 291 44 = some (.aload_n 0, 1, (0, 0, 0, 0), 0) := rfl
theorem s291_44 {c : Nat → List AV → SS → Option Out} {l1 l2 l3 : Option AV} {o : OId} {L2 : List (Nat × AV)} {St : List AV} {S : SS} : ev c 291 44 [some (aR o), l1, l2, l3] L2 St S = ev c 291 45 [some (aR o), l1, l2, l3] L2 (aR o :: St) S := ev_go i291_44 rfl
theorem i291_45 : insAt 291 45 = some (.getfield 31, 3, (12, 7, 0, 0), 371) := rfl
theorem s291_45 {c : Nat → List AV → SS → Option Out} {l0 l1 l2 l3 : Option AV} {j t : Nat} {L2 : List (Nat × AV)} {St : List AV} {S : SS} : ev c 291 45 [l0, l1, l2, l3] L2 (aR (12, j, t) :: St) S = ev c 291 48 [l0, l1, l2, l3] L2 (aI (S.1 (12, j, t) 7) :: St) S := ev_go i291_45 rfl
theorem i291_48 : insAt 291 48 = some (.ifCond .le 5, 3, (0, 0, 0, 0), 0) := rfl
theorem s291_48 {c : Nat → List AV → SS → Option Out} {l0 l1 l2 l3 : Option AV} {x : Int32} {L2 : List (Nat × AV)} {St : List AV} {S : SS} : ev c 291 48 [l0, l1, l2, l3] L2 (aI x :: St) S = if x ≤ 0 then ev c 291 53 [l0, l1, l2, l3] L2 St S else ev c 291 51 [l0, l1, l2, l3] L2 St S := ev_br i291_48 rfl
theorem i291_51 : insAt 291 51 = some (.iconst 0, 1, (0, 0, 0, 0), 0) := rfl
theorem s291_51 {c : Nat → List AV → SS → Option Out} {l0 l1 l2 l3 : Option AV} {L2 : List (Nat × AV)} {St : List AV} {S : SS} : ev c 291 51 [l0, l1, l2, l3] L2 St S = ev c 291 52 [l0, l1, l2, l3] L2 (aI 0 :: St) S := ev_go i291_51 rfl
theorem i291_52 : insAt 291 52 = some (.ireturn, 1, (0, 0, 0, 0), 0) := rfl
theorem s291_52 {c : Nat → List AV → SS → Option Out} {l0 l1 l2 l3 : Option AV} {x : Int32} {L2 : List (Nat × AV)} {S : SS} : ev c 291 52 [l0, l1, l2, l3] L2 [aI x] S = some (.inl (some (aI x)), S) := ev_end i291_52 rfl
theorem i291_53 : insAt 291 53 = some (.aload_n 0, 1, (0, 0, 0, 0), 0) := rfl
theorem s291_53 {c : Nat → List AV → SS → Option Out} {l1 l2 l3 : Option AV} {o : OId} {L2 : List (Nat × AV)} {St : List AV} {S : SS} : ev c 291 53 [some (aR o), l1, l2, l3] L2 St S = ev c 291 54 [some (aR o), l1, l2, l3] L2 (aR o :: St) S := ev_go i291_53 rfl
theorem i291_54 : insAt 291 54 = some (.invokevirtual 86, 3, (217, 0, 2, 12), 384) := rfl
theorem s291_54 {c : Nat → List AV → SS → Option Out} {l0 l1 l2 l3 : Option AV} {j t : Nat} {L2 : List (Nat × AV)} {S : SS} : ev c 291 54 [l0, l1, l2, l3] L2 [aR (12, j, t)] S = ck (c 217 [aR (12, j, t)] S) (fun v S' => ev c 291 57 [l0, l1, l2, l3] L2 (v.toList ++ []) S') := ev_call i291_54 rfl
theorem i291_57 : insAt 291 57 = some (.aload_n 0, 1, (0, 0, 0, 0), 0) := rfl
theorem s291_57 {c : Nat → List AV → SS → Option Out} {l1 l2 l3 : Option AV} {o : OId} {L2 : List (Nat × AV)} {St : List AV} {S : SS} : ev c 291 57 [some (aR o), l1, l2, l3] L2 St S = ev c 291 58 [some (aR o), l1, l2, l3] L2 (aR o :: St) S := ev_go i291_57 rfl
theorem i291_58 : insAt 291 58 = some (.aload_n 0, 1, (0, 0, 0, 0), 0) := rfl
theorem s291_58 {c : Nat → List AV → SS → Option Out} {l1 l2 l3 : Option AV} {o : OId} {L2 : List (Nat × AV)} {St : List AV} {S : SS} : ev c 291 58 [some (aR o), l1, l2, l3] L2 St S = ev c 291 59 [some (aR o), l1, l2, l3] L2 (aR o :: St) S := ev_go i291_58 rfl
theorem i291_59 : insAt 291 59 = some (.iload_n 1, 1, (0, 0, 0, 0), 0) := rfl
theorem s291_59 {c : Nat → List AV → SS → Option Out} {l0 l2 l3 : Option AV} {x : Int32} {L2 : List (Nat × AV)} {St : List AV} {S : SS} : ev c 291 59 [l0, some (aI x), l2, l3] L2 St S = ev c 291 60 [l0, some (aI x), l2, l3] L2 (aI x :: St) S := ev_go i291_59 rfl
theorem i291_60 : insAt 291 60 = some (.invokevirtual 173, 3, (253, 1, 2, 12), 414) := rfl
theorem s291_60 {c : Nat → List AV → SS → Option Out} {l0 l1 l2 l3 : Option AV} {t0 : AV} {a0 : Int32} {j t : Nat} {L2 : List (Nat × AV)} {S : SS} : ev c 291 60 [l0, l1, l2, l3] L2 [aI a0, aR (12, j, t), t0] S = ck (c 253 [aR (12, j, t), aI a0] S) (fun v S' => ev c 291 63 [l0, l1, l2, l3] L2 (v.toList ++ [t0]) S') := ev_call i291_60 rfl
theorem i291_63 : insAt 291 63 = some (.iload_n 3, 1, (0, 0, 0, 0), 0) := rfl
theorem s291_63 {c : Nat → List AV → SS → Option Out} {l0 l1 l2 : Option AV} {x : Int32} {L2 : List (Nat × AV)} {St : List AV} {S : SS} : ev c 291 63 [l0, l1, l2, some (aI x)] L2 St S = ev c 291 64 [l0, l1, l2, some (aI x)] L2 (aI x :: St) S := ev_go i291_63 rfl
theorem i291_64 : insAt 291 64 = some (.invokevirtual 204, 3, (292, 2, 2, 12), 424) := rfl
theorem s291_64 {c : Nat → List AV → SS → Option Out} {l0 l1 l2 l3 : Option AV} {a0 : Int32} {a1 : Int32} {j t : Nat} {L2 : List (Nat × AV)} {S : SS} : ev c 291 64 [l0, l1, l2, l3] L2 [aI a1, aI a0, aR (12, j, t)] S = ck (c 292 [aR (12, j, t), aI a0, aI a1] S) (fun v S' => ev c 291 67 [l0, l1, l2, l3] L2 (v.toList ++ []) S') := ev_call i291_64 rfl
theorem i291_67 : insAt 291 67 = some (.iload_n 3, 1, (0, 0, 0, 0), 0) := rfl
theorem s291_67 {c : Nat → List AV → SS → Option Out} {l0 l1 l2 : Option AV} {x : Int32} {L2 : List (Nat × AV)} {St : List AV} {S : SS} : ev c 291 67 [l0, l1, l2, some (aI x)] L2 St S = ev c 291 68 [l0, l1, l2, some (aI x)] L2 (aI x :: St) S := ev_go i291_67 rfl
theorem i291_68 : insAt 291 68 = some (.ireturn, 1, (0, 0, 0, 0), 0) := rfl
theorem s291_68 {c : Nat → List AV → SS → Option Out} {l0 l1 l2 l3 : Option AV} {x : Int32} {L2 : List (Nat × AV)} {S : SS} : ev c 291 68 [l0, l1, l2, l3] L2 [aI x] S = some (.inl (some (aI x)), S) := ev_end i291_68 rfl
theorem m291 {d : Nat} {o : OId} {a0 : Int32} {a1 : Int32} {S : SS} : evm (d + 1) 291 [aR o, aI a0, aI a1] S = ev (evm d) 291 0 [some (aR o), some (aI a0), some (aI a1), none] [] [] S := evm_s (n := 4) rfl (Nat.le_of_ble_eq_true rfl) rfl rfl
/-! FrequencyOfficeModel.carries(II)V -/
theorem i292_0 : insAt 292 0 = some (.aload_n 0, 1, (0, 0, 0, 0), 0) := rfl
theorem s292_0 {c : Nat → List AV → SS → Option Out} {l1 l2 : Option AV} {o : OId} {L2 : List (Nat × AV)} {St : List AV} {S : SS} : ev c 292 0 [some (aR o), l1, l2] L2 St S = ev c 292 1 [some (aR o), l1, l2] L2 (aR o :: St) S := ev_go i292_0 rfl
theorem i292_1 : insAt 292 1 = some (.iload_n 2, 1, (0, 0, 0, 0), 0) := rfl
theorem s292_1 {c : Nat → List AV → SS → Option Out} {l0 l1 : Option AV} {x : Int32} {L2 : List (Nat × AV)} {St : List AV} {S : SS} : ev c 292 1 [l0, l1, some (aI x)] L2 St S = ev c 292 2 [l0, l1, some (aI x)] L2 (aI x :: St) S := ev_go i292_1 rfl
theorem i292_2 : insAt 292 2 = some (.invokevirtual 161, 3, (243, 1, 2, 12), 390) := rfl
theorem s292_2 {c : Nat → List AV → SS → Option Out} {l0 l1 l2 : Option AV} {a0 : Int32} {j t : Nat} {L2 : List (Nat × AV)} {S : SS} : ev c 292 2 [l0, l1, l2] L2 [aI a0, aR (12, j, t)] S = ck (c 243 [aR (12, j, t), aI a0] S) (fun v S' => ev c 292 5 [l0, l1, l2] L2 (v.toList ++ []) S') := ev_call i292_2 rfl
theorem i292_5 : insAt 292 5 = some (.aload_n 0, 1, (0, 0, 0, 0), 0) := rfl
theorem s292_5 {c : Nat → List AV → SS → Option Out} {l1 l2 : Option AV} {o : OId} {L2 : List (Nat × AV)} {St : List AV} {S : SS} : ev c 292 5 [some (aR o), l1, l2] L2 St S = ev c 292 6 [some (aR o), l1, l2] L2 (aR o :: St) S := ev_go i292_5 rfl
theorem i292_6 : insAt 292 6 = some (.iload_n 1, 1, (0, 0, 0, 0), 0) := rfl
theorem s292_6 {c : Nat → List AV → SS → Option Out} {l0 l2 : Option AV} {x : Int32} {L2 : List (Nat × AV)} {St : List AV} {S : SS} : ev c 292 6 [l0, some (aI x), l2] L2 St S = ev c 292 7 [l0, some (aI x), l2] L2 (aI x :: St) S := ev_go i292_6 rfl
theorem i292_7 : insAt 292 7 = some (.iconst 3, 1, (0, 0, 0, 0), 0) := rfl
theorem s292_7 {c : Nat → List AV → SS → Option Out} {l0 l1 l2 : Option AV} {L2 : List (Nat × AV)} {St : List AV} {S : SS} : ev c 292 7 [l0, l1, l2] L2 St S = ev c 292 8 [l0, l1, l2] L2 (aI 3 :: St) S := ev_go i292_7 rfl
theorem i292_8 : insAt 292 8 = some (.aload_n 0, 1, (0, 0, 0, 0), 0) := rfl
theorem s292_8 {c : Nat → List AV → SS → Option Out} {l1 l2 : Option AV} {o : OId} {L2 : List (Nat × AV)} {St : List AV} {S : SS} : ev c 292 8 [some (aR o), l1, l2] L2 St S = ev c 292 9 [some (aR o), l1, l2] L2 (aR o :: St) S := ev_go i292_8 rfl
theorem i292_9 : insAt 292 9 = some (.getfield 53, 3, (12, 14, 0, 0), 378) := rfl
theorem s292_9 {c : Nat → List AV → SS → Option Out} {l0 l1 l2 : Option AV} {j t : Nat} {L2 : List (Nat × AV)} {St : List AV} {S : SS} : ev c 292 9 [l0, l1, l2] L2 (aR (12, j, t) :: St) S = ev c 292 12 [l0, l1, l2] L2 (aI (S.1 (12, j, t) 14) :: St) S := ev_go i292_9 rfl
theorem i292_12 : insAt 292 12 = some (.invokevirtual 79, 3, (242, 3, 2, 12), 397) := rfl
theorem s292_12 {c : Nat → List AV → SS → Option Out} {l0 l1 l2 : Option AV} {a0 : Int32} {a1 : Int32} {a2 : Int32} {j t : Nat} {L2 : List (Nat × AV)} {S : SS} : ev c 292 12 [l0, l1, l2] L2 [aI a2, aI a1, aI a0, aR (12, j, t)] S = ck (c 242 [aR (12, j, t), aI a0, aI a1, aI a2] S) (fun v S' => ev c 292 15 [l0, l1, l2] L2 (v.toList ++ []) S') := ev_call i292_12 rfl
theorem i292_15 : insAt 292 15 = some (.aload_n 0, 1, (0, 0, 0, 0), 0) := rfl
theorem s292_15 {c : Nat → List AV → SS → Option Out} {l1 l2 : Option AV} {o : OId} {L2 : List (Nat × AV)} {St : List AV} {S : SS} : ev c 292 15 [some (aR o), l1, l2] L2 St S = ev c 292 16 [some (aR o), l1, l2] L2 (aR o :: St) S := ev_go i292_15 rfl
theorem i292_16 : insAt 292 16 = some (.invokevirtual 167, 3, (246, 0, 2, 12), 392) := rfl
theorem s292_16 {c : Nat → List AV → SS → Option Out} {l0 l1 l2 : Option AV} {j t : Nat} {L2 : List (Nat × AV)} {S : SS} : ev c 292 16 [l0, l1, l2] L2 [aR (12, j, t)] S = ck (c 246 [aR (12, j, t)] S) (fun v S' => ev c 292 19 [l0, l1, l2] L2 (v.toList ++ []) S') := ev_call i292_16 rfl
theorem i292_19 : insAt 292 19 = some (.return_, 1, (0, 0, 0, 0), 0) := rfl
theorem s292_19 {c : Nat → List AV → SS → Option Out} {l0 l1 l2 : Option AV} {L2 : List (Nat × AV)} {S : SS} : ev c 292 19 [l0, l1, l2] L2 [] S = some (.inl none, S) := ev_end i292_19 rfl
theorem m292 {d : Nat} {o : OId} {a0 : Int32} {a1 : Int32} {S : SS} : evm (d + 1) 292 [aR o, aI a0, aI a1] S = ev (evm d) 292 0 [some (aR o), some (aI a0), some (aI a1)] [] [] S := evm_s (n := 3) rfl (Nat.le_of_ble_eq_true rfl) rfl rfl
/-! FrequencyOfficeModel.complain(II)I -/
theorem i293_0 : insAt 293 0 = some (.aload_n 0, 1, (0, 0, 0, 0), 0) := rfl
theorem s293_0 {c : Nat → List AV → SS → Option Out} {l1 l2 l3 l4 l5 l6 l7 : Option AV} {o : OId} {L2 : List (Nat × AV)} {St : List AV} {S : SS} : ev c 293 0 [some (aR o), l1, l2, l3, l4, l5, l6, l7] L2 St S = ev c 293 1 [some (aR o), l1, l2, l3, l4, l5, l6, l7] L2 (aR o :: St) S := ev_go i293_0 rfl
theorem i293_1 : insAt 293 1 = some (.iload_n 1, 1, (0, 0, 0, 0), 0) := rfl
theorem s293_1 {c : Nat → List AV → SS → Option Out} {l0 l2 l3 l4 l5 l6 l7 : Option AV} {x : Int32} {L2 : List (Nat × AV)} {St : List AV} {S : SS} : ev c 293 1 [l0, some (aI x), l2, l3, l4, l5, l6, l7] L2 St S = ev c 293 2 [l0, some (aI x), l2, l3, l4, l5, l6, l7] L2 (aI x :: St) S := ev_go i293_1 rfl
theorem i293_2 : insAt 293 2 = some (.iload_n 2, 1, (0, 0, 0, 0), 0) := rfl
theorem s293_2 {c : Nat → List AV → SS → Option Out} {l0 l1 l3 l4 l5 l6 l7 : Option AV} {x : Int32} {L2 : List (Nat × AV)} {St : List AV} {S : SS} : ev c 293 2 [l0, l1, some (aI x), l3, l4, l5, l6, l7] L2 St S = ev c 293 3 [l0, l1, some (aI x), l3, l4, l5, l6, l7] L2 (aI x :: St) S := ev_go i293_2 rfl
theorem i293_3 : insAt 293 3 = some (.invokevirtual 189, 3, (275, 2, 2, 12), 419) := rfl
theorem s293_3 {c : Nat → List AV → SS → Option Out} {l0 l1 l2 l3 l4 l5 l6 l7 : Option AV} {a0 : Int32} {a1 : Int32} {j t : Nat} {L2 : List (Nat × AV)} {S : SS} : ev c 293 3 [l0, l1, l2, l3, l4, l5, l6, l7] L2 [aI a1, aI a0, aR (12, j, t)] S = ck (c 275 [aR (12, j, t), aI a0, aI a1] S) (fun v S' => ev c 293 6 [l0, l1, l2, l3, l4, l5, l6, l7] L2 (v.toList ++ []) S') := ev_call i293_3 rfl
theorem i293_6 : insAt 293 6 = some (.ifCond .ne 5, 3, (0, 0, 0, 0), 0) := rfl
theorem s293_6 {c : Nat → List AV → SS → Option Out} {l0 l1 l2 l3 l4 l5 l6 l7 : Option AV} {x : Int32} {L2 : List (Nat × AV)} {St : List AV} {S : SS} : ev c 293 6 [l0, l1, l2, l3, l4, l5, l6, l7] L2 (aI x :: St) S = if x = 0 then ev c 293 9 [l0, l1, l2, l3, l4, l5, l6, l7] L2 St S else ev c 293 11 [l0, l1, l2, l3, l4, l5, l6, l7] L2 St S := (ev_br i293_6 rfl).trans (ite_not _ _ _)
theorem i293_9 : insAt 293 9 = some (.iconst 0, 1, (0, 0, 0, 0), 0) := rfl
theorem s293_9 {c : Nat → List AV → SS → Option Out} {l0 l1 l2 l3 l4 l5 l6 l7 : Option AV} {L2 : List (Nat × AV)} {St : List AV} {S : SS} : ev c 293 9 [l0, l1, l2, l3, l4, l5, l6, l7] L2 St S = ev c 293 10 [l0, l1, l2, l3, l4, l5, l6, l7] L2 (aI 0 :: St) S := ev_go i293_9 rfl
theorem i293_10 : insAt 293 10 = some (.ireturn, 1, (0, 0, 0, 0), 0) := rfl
theorem s293_10 {c : Nat → List AV → SS → Option Out} {l0 l1 l2 l3 l4 l5 l6 l7 : Option AV} {x : Int32} {L2 : List (Nat × AV)} {S : SS} : ev c 293 10 [l0, l1, l2, l3, l4, l5, l6, l7] L2 [aI x] S = some (.inl (some (aI x)), S) := ev_end i293_10 rfl
theorem i293_11 : insAt 293 11 = some (.aload_n 0, 1, (0, 0, 0, 0), 0) := rfl
theorem s293_11 {c : Nat → List AV → SS → Option Out} {l1 l2 l3 l4 l5 l6 l7 : Option AV} {o : OId} {L2 : List (Nat × AV)} {St : List AV} {S : SS} : ev c 293 11 [some (aR o), l1, l2, l3, l4, l5, l6, l7] L2 St S = ev c 293 12 [some (aR o), l1, l2, l3, l4, l5, l6, l7] L2 (aR o :: St) S := ev_go i293_11 rfl
theorem i293_12 : insAt 293 12 = some (.iload_n 1, 1, (0, 0, 0, 0), 0) := rfl
theorem s293_12 {c : Nat → List AV → SS → Option Out} {l0 l2 l3 l4 l5 l6 l7 : Option AV} {x : Int32} {L2 : List (Nat × AV)} {St : List AV} {S : SS} : ev c 293 12 [l0, some (aI x), l2, l3, l4, l5, l6, l7] L2 St S = ev c 293 13 [l0, some (aI x), l2, l3, l4, l5, l6, l7] L2 (aI x :: St) S := ev_go i293_12 rfl
theorem i293_13 : insAt 293 13 = some (.invokevirtual 173, 3, (253, 1, 2, 12), 414) := rfl
theorem s293_13 {c : Nat → List AV → SS → Option Out} {l0 l1 l2 l3 l4 l5 l6 l7 : Option AV} {a0 : Int32} {j t : Nat} {L2 : List (Nat × AV)} {S : SS} : ev c 293 13 [l0, l1, l2, l3, l4, l5, l6, l7] L2 [aI a0, aR (12, j, t)] S = ck (c 253 [aR (12, j, t), aI a0] S) (fun v S' => ev c 293 16 [l0, l1, l2, l3, l4, l5, l6, l7] L2 (v.toList ++ []) S') := ev_call i293_13 rfl
theorem i293_16 : insAt 293 16 = some (.istore_n 3, 1, (0, 0, 0, 0), 0) := rfl
theorem s293_16 {c : Nat → List AV → SS → Option Out} {l0 l1 l2 l3 l4 l5 l6 l7 : Option AV} {x : Int32} {L2 : List (Nat × AV)} {St : List AV} {S : SS} : ev c 293 16 [l0, l1, l2, l3, l4, l5, l6, l7] L2 (aI x :: St) S = ev c 293 17 [l0, l1, l2, some (aI x), l4, l5, l6, l7] (kil L2 3) St S := ev_go i293_16 rfl
theorem i293_17 : insAt 293 17 = some (.aload_n 0, 1, (0, 0, 0, 0), 0) := rfl
theorem s293_17 {c : Nat → List AV → SS → Option Out} {l1 l2 l3 l4 l5 l6 l7 : Option AV} {o : OId} {L2 : List (Nat × AV)} {St : List AV} {S : SS} : ev c 293 17 [some (aR o), l1, l2, l3, l4, l5, l6, l7] L2 St S = ev c 293 18 [some (aR o), l1, l2, l3, l4, l5, l6, l7] L2 (aR o :: St) S := ev_go i293_17 rfl
theorem i293_18 : insAt 293 18 = some (.iload_n 2, 1, (0, 0, 0, 0), 0) := rfl
theorem s293_18 {c : Nat → List AV → SS → Option Out} {l0 l1 l3 l4 l5 l6 l7 : Option AV} {x : Int32} {L2 : List (Nat × AV)} {St : List AV} {S : SS} : ev c 293 18 [l0, l1, some (aI x), l3, l4, l5, l6, l7] L2 St S = ev c 293 19 [l0, l1, some (aI x), l3, l4, l5, l6, l7] L2 (aI x :: St) S := ev_go i293_18 rfl
theorem i293_19 : insAt 293 19 = some (.invokevirtual 173, 3, (253, 1, 2, 12), 414) := rfl
theorem s293_19 {c : Nat → List AV → SS → Option Out} {l0 l1 l2 l3 l4 l5 l6 l7 : Option AV} {a0 : Int32} {j t : Nat} {L2 : List (Nat × AV)} {S : SS} : ev c 293 19 [l0, l1, l2, l3, l4, l5, l6, l7] L2 [aI a0, aR (12, j, t)] S = ck (c 253 [aR (12, j, t), aI a0] S) (fun v S' => ev c 293 22 [l0, l1, l2, l3, l4, l5, l6, l7] L2 (v.toList ++ []) S') := ev_call i293_19 rfl
theorem i293_22 : insAt 293 22 = some (.istore 4, 2, (0, 0, 0, 0), 0) := rfl
theorem s293_22 {c : Nat → List AV → SS → Option Out} {l0 l1 l2 l3 l4 l5 l6 l7 : Option AV} {x : Int32} {L2 : List (Nat × AV)} {St : List AV} {S : SS} : ev c 293 22 [l0, l1, l2, l3, l4, l5, l6, l7] L2 (aI x :: St) S = ev c 293 24 [l0, l1, l2, l3, some (aI x), l5, l6, l7] (kil L2 4) St S := ev_go i293_22 rfl
theorem i293_24 : insAt 293 24 = some (.aload_n 0, 1, (0, 0, 0, 0), 0) := rfl
theorem s293_24 {c : Nat → List AV → SS → Option Out} {l1 l2 l3 l4 l5 l6 l7 : Option AV} {o : OId} {L2 : List (Nat × AV)} {St : List AV} {S : SS} : ev c 293 24 [some (aR o), l1, l2, l3, l4, l5, l6, l7] L2 St S = ev c 293 25 [some (aR o), l1, l2, l3, l4, l5, l6, l7] L2 (aR o :: St) S := ev_go i293_24 rfl
theorem i293_25 : insAt 293 25 = some (.iload_n 3, 1, (0, 0, 0, 0), 0) := rfl
theorem s293_25 {c : Nat → List AV → SS → Option Out} {l0 l1 l2 l4 l5 l6 l7 : Option AV} {x : Int32} {L2 : List (Nat × AV)} {St : List AV} {S : SS} : ev c 293 25 [l0, l1, l2, some (aI x), l4, l5, l6, l7] L2 St S = ev c 293 26 [l0, l1, l2, some (aI x), l4, l5, l6, l7] L2 (aI x :: St) S := ev_go i293_25 rfl
theorem i293_26 : insAt 293 26 = some (.iload 4, 2, (0, 0, 0, 0), 0) := rfl
theorem s293_26 {c : Nat → List AV → SS → Option Out} {l0 l1 l2 l3 l5 l6 l7 : Option AV} {x : Int32} {L2 : List (Nat × AV)} {St : List AV} {S : SS} : ev c 293 26 [l0, l1, l2, l3, some (aI x), l5, l6, l7] L2 St S = ev c 293 28 [l0, l1, l2, l3, some (aI x), l5, l6, l7] L2 (aI x :: St) S := ev_go i293_26 rfl
theorem i293_28 : insAt 293 28 = some (.invokevirtual 106, 3, (237, 2, 2, 12), 404) := rfl
theorem s293_28 {c : Nat → List AV → SS → Option Out} {l0 l1 l2 l3 l4 l5 l6 l7 : Option AV} {a0 : Int32} {a1 : Int32} {j t : Nat} {L2 : List (Nat × AV)} {S : SS} : ev c 293 28 [l0, l1, l2, l3, l4, l5, l6, l7] L2 [aI a1, aI a0, aR (12, j, t)] S = ck (c 237 [aR (12, j, t), aI a0, aI a1] S) (fun v S' => ev c 293 31 [l0, l1, l2, l3, l4, l5, l6, l7] L2 (v.toList ++ []) S') := ev_call i293_28 rfl
theorem i293_31 : insAt 293 31 = some (.istore 5, 2, (0, 0, 0, 0), 0) := rfl
theorem s293_31 {c : Nat → List AV → SS → Option Out} {l0 l1 l2 l3 l4 l5 l6 l7 : Option AV} {x : Int32} {L2 : List (Nat × AV)} {St : List AV} {S : SS} : ev c 293 31 [l0, l1, l2, l3, l4, l5, l6, l7] L2 (aI x :: St) S = ev c 293 33 [l0, l1, l2, l3, l4, some (aI x), l6, l7] (kil L2 5) St S := ev_go i293_31 rfl
theorem i293_33 : insAt 293 33 = some (.aload_n 0, 1, (0, 0, 0, 0), 0) := rfl
theorem s293_33 {c : Nat → List AV → SS → Option Out} {l1 l2 l3 l4 l5 l6 l7 : Option AV} {o : OId} {L2 : List (Nat × AV)} {St : List AV} {S : SS} : ev c 293 33 [some (aR o), l1, l2, l3, l4, l5, l6, l7] L2 St S = ev c 293 34 [some (aR o), l1, l2, l3, l4, l5, l6, l7] L2 (aR o :: St) S := ev_go i293_33 rfl
theorem i293_34 : insAt 293 34 = some (.aload_n 0, 1, (0, 0, 0, 0), 0) := rfl
theorem s293_34 {c : Nat → List AV → SS → Option Out} {l1 l2 l3 l4 l5 l6 l7 : Option AV} {o : OId} {L2 : List (Nat × AV)} {St : List AV} {S : SS} : ev c 293 34 [some (aR o), l1, l2, l3, l4, l5, l6, l7] L2 St S = ev c 293 35 [some (aR o), l1, l2, l3, l4, l5, l6, l7] L2 (aR o :: St) S := ev_go i293_34 rfl
theorem i293_35 : insAt 293 35 = some (.iload_n 3, 1, (0, 0, 0, 0), 0) := rfl
theorem s293_35 {c : Nat → List AV → SS → Option Out} {l0 l1 l2 l4 l5 l6 l7 : Option AV} {x : Int32} {L2 : List (Nat × AV)} {St : List AV} {S : SS} : ev c 293 35 [l0, l1, l2, some (aI x), l4, l5, l6, l7] L2 St S = ev c 293 36 [l0, l1, l2, some (aI x), l4, l5, l6, l7] L2 (aI x :: St) S := ev_go i293_35 rfl
theorem i293_36 : insAt 293 36 = some (.invokevirtual 115, 3, (230, 1, 2, 12), 400) := rfl
theorem s293_36 {c : Nat → List AV → SS → Option Out} {l0 l1 l2 l3 l4 l5 l6 l7 : Option AV} {t0 : AV} {a0 : Int32} {j t : Nat} {L2 : List (Nat × AV)} {S : SS} : ev c 293 36 [l0, l1, l2, l3, l4, l5, l6, l7] L2 [aI a0, aR (12, j, t), t0] S = ck (c 230 [aR (12, j, t), aI a0] S) (fun v S' => ev c 293 39 [l0, l1, l2, l3, l4, l5, l6, l7] L2 (v.toList ++ [t0]) S') := ev_call i293_36 rfl
theorem i293_39 : insAt 293 39 = some (.ifCond .eq 28, 3, (0, 0, 0, 0), 0) := rfl
theorem s293_39 {c : Nat → List AV → SS → Option Out} {l0 l1 l2 l3 l4 l5 l6 l7 : Option AV} {x : Int32} {L2 : List (Nat × AV)} {St : List AV} {S : SS} : ev c 293 39 [l0, l1, l2, l3, l4, l5, l6, l7] L2 (aI x :: St) S = if x = 0 then ev c 293 67 [l0, l1, l2, l3, l4, l5, l6, l7] L2 St S else ev c 293 42 [l0, l1, l2, l3, l4, l5, l6, l7] L2 St S := ev_br i293_39 rfl
theorem i293_42 : insAt 293 42 = some (.aload_n 0, 1, (0, 0, 0, 0), 0) := rfl
theorem s293_42 {c : Nat → List AV → SS → Option Out} {l1 l2 l3 l4 l5 l6 l7 : Option AV} {o : OId} {L2 : List (Nat × AV)} {St : List AV} {S : SS} : ev c 293 42 [some (aR o), l1, l2, l3, l4, l5, l6, l7] L2 St S = ev c 293 43 [some (aR o), l1, l2, l3, l4, l5, l6, l7] L2 (aR o :: St) S := ev_go i293_42 rfl
theorem i293_43 : insAt 293 43 = some (.iload 4, 2, (0, 0, 0, 0), 0) := rfl
theorem s293_43 {c : Nat → List AV → SS → Option Out} {l0 l1 l2 l3 l5 l6 l7 : Option AV} {x : Int32} {L2 : List (Nat × AV)} {St : List AV} {S : SS} : ev c 293 43 [l0, l1, l2, l3, some (aI x), l5, l6, l7] L2 St S = ev c 293 45 [l0, l1, l2, l3, some (aI x), l5, l6, l7] L2 (aI x :: St) S := ev_go i293_43 rfl
theorem i293_45 : insAt 293 45 = some (.invokevirtual 115, 3, (230, 1, 2, 12), 400) := rfl
theorem s293_45 {c : Nat → List AV → SS → Option Out} {l0 l1 l2 l3 l4 l5 l6 l7 : Option AV} {t0 : AV} {a0 : Int32} {j t : Nat} {L2 : List (Nat × AV)} {S : SS} : ev c 293 45 [l0, l1, l2, l3, l4, l5, l6, l7] L2 [aI a0, aR (12, j, t), t0] S = ck (c 230 [aR (12, j, t), aI a0] S) (fun v S' => ev c 293 48 [l0, l1, l2, l3, l4, l5, l6, l7] L2 (v.toList ++ [t0]) S') := ev_call i293_45 rfl
theorem i293_48 : insAt 293 48 = some (.ifCond .eq 19, 3, (0, 0, 0, 0), 0) := rfl
theorem s293_48 {c : Nat → List AV → SS → Option Out} {l0 l1 l2 l3 l4 l5 l6 l7 : Option AV} {x : Int32} {L2 : List (Nat × AV)} {St : List AV} {S : SS} : ev c 293 48 [l0, l1, l2, l3, l4, l5, l6, l7] L2 (aI x :: St) S = if x = 0 then ev c 293 67 [l0, l1, l2, l3, l4, l5, l6, l7] L2 St S else ev c 293 51 [l0, l1, l2, l3, l4, l5, l6, l7] L2 St S := ev_br i293_48 rfl
theorem i293_51 : insAt 293 51 = some (.aload_n 0, 1, (0, 0, 0, 0), 0) := rfl
theorem s293_51 {c : Nat → List AV → SS → Option Out} {l1 l2 l3 l4 l5 l6 l7 : Option AV} {o : OId} {L2 : List (Nat × AV)} {St : List AV} {S : SS} : ev c 293 51 [some (aR o), l1, l2, l3, l4, l5, l6, l7] L2 St S = ev c 293 52 [some (aR o), l1, l2, l3, l4, l5, l6, l7] L2 (aR o :: St) S := ev_go i293_51 rfl
theorem i293_52 : insAt 293 52 = some (.iload_n 3, 1, (0, 0, 0, 0), 0) := rfl
theorem s293_52 {c : Nat → List AV → SS → Option Out} {l0 l1 l2 l4 l5 l6 l7 : Option AV} {x : Int32} {L2 : List (Nat × AV)} {St : List AV} {S : SS} : ev c 293 52 [l0, l1, l2, some (aI x), l4, l5, l6, l7] L2 St S = ev c 293 53 [l0, l1, l2, some (aI x), l4, l5, l6, l7] L2 (aI x :: St) S := ev_go i293_52 rfl
theorem i293_53 : insAt 293 53 = some (.iload 4, 2, (0, 0, 0, 0), 0) := rfl
theorem s293_53 {c : Nat → List AV → SS → Option Out} {l0 l1 l2 l3 l5 l6 l7 : Option AV} {x : Int32} {L2 : List (Nat × AV)} {St : List AV} {S : SS} : ev c 293 53 [l0, l1, l2, l3, some (aI x), l5, l6, l7] L2 St S = ev c 293 55 [l0, l1, l2, l3, some (aI x), l5, l6, l7] L2 (aI x :: St) S := ev_go i293_53 rfl
theorem i293_55 : insAt 293 55 = some (.invokevirtual 103, 3, (241, 2, 2, 12), 408) := rfl
theorem s293_55 {c : Nat → List AV → SS → Option Out} {l0 l1 l2 l3 l4 l5 l6 l7 : Option AV} {t0 : AV} {a0 : Int32} {a1 : Int32} {j t : Nat} {L2 : List (Nat × AV)} {S : SS} : ev c 293 55 [l0, l1, l2, l3, l4, l5, l6, l7] L2 [aI a1, aI a0, aR (12, j, t), t0] S = ck (c 241 [aR (12, j, t), aI a0, aI a1] S) (fun v S' => ev c 293 58 [l0, l1, l2, l3, l4, l5, l6, l7] L2 (v.toList ++ [t0]) S') := ev_call i293_55 rfl
theorem i293_58 : insAt 293 58 = some (.ifCond .eq 9, 3, (0, 0, 0, 0), 0) := rfl
theorem s293_58 {c : Nat → List AV → SS → Option Out} {l0 l1 l2 l3 l4 l5 l6 l7 : Option AV} {x : Int32} {L2 : List (Nat × AV)} {St : List AV} {S : SS} : ev c 293 58 [l0, l1, l2, l3, l4, l5, l6, l7] L2 (aI x :: St) S = if x = 0 then ev c 293 67 [l0, l1, l2, l3, l4, l5, l6, l7] L2 St S else ev c 293 61 [l0, l1, l2, l3, l4, l5, l6, l7] L2 St S := ev_br i293_58 rfl
theorem i293_61 : insAt 293 61 = some (.iload 5, 2, (0, 0, 0, 0), 0) := rfl
theorem s293_61 {c : Nat → List AV → SS → Option Out} {l0 l1 l2 l3 l4 l6 l7 : Option AV} {x : Int32} {L2 : List (Nat × AV)} {St : List AV} {S : SS} : ev c 293 61 [l0, l1, l2, l3, l4, some (aI x), l6, l7] L2 St S = ev c 293 63 [l0, l1, l2, l3, l4, some (aI x), l6, l7] L2 (aI x :: St) S := ev_go i293_61 rfl
theorem i293_63 : insAt 293 63 = some (.iconst 2, 1, (0, 0, 0, 0), 0) := rfl
theorem s293_63 {c : Nat → List AV → SS → Option Out} {l0 l1 l2 l3 l4 l5 l6 l7 : Option AV} {L2 : List (Nat × AV)} {St : List AV} {S : SS} : ev c 293 63 [l0, l1, l2, l3, l4, l5, l6, l7] L2 St S = ev c 293 64 [l0, l1, l2, l3, l4, l5, l6, l7] L2 (aI 2 :: St) S := ev_go i293_63 rfl
theorem i293_64 : insAt 293 64 = some (.if_icmp .ne 7, 3, (0, 0, 0, 0), 0) := rfl
theorem s293_64 {c : Nat → List AV → SS → Option Out} {l0 l1 l2 l3 l4 l5 l6 l7 : Option AV} {x y : Int32} {L2 : List (Nat × AV)} {St : List AV} {S : SS} : ev c 293 64 [l0, l1, l2, l3, l4, l5, l6, l7] L2 (aI y :: aI x :: St) S = if x = y then ev c 293 67 [l0, l1, l2, l3, l4, l5, l6, l7] L2 St S else ev c 293 71 [l0, l1, l2, l3, l4, l5, l6, l7] L2 St S := (ev_br i293_64 rfl).trans (ite_not _ _ _)
theorem i293_67 : insAt 293 67 = some (.iconst 3, 1, (0, 0, 0, 0), 0) := rfl
theorem s293_67 {c : Nat → List AV → SS → Option Out} {l0 l1 l2 l3 l4 l5 l6 l7 : Option AV} {L2 : List (Nat × AV)} {St : List AV} {S : SS} : ev c 293 67 [l0, l1, l2, l3, l4, l5, l6, l7] L2 St S = ev c 293 68 [l0, l1, l2, l3, l4, l5, l6, l7] L2 (aI 3 :: St) S := ev_go i293_67 rfl
theorem i293_68 : insAt 293 68 = some (.goto 4, 3, (0, 0, 0, 0), 0) := rfl
theorem s293_68 {c : Nat → List AV → SS → Option Out} {l0 l1 l2 l3 l4 l5 l6 l7 : Option AV} {L2 : List (Nat × AV)} {St : List AV} {S : SS} : ev c 293 68 [l0, l1, l2, l3, l4, l5, l6, l7] L2 St S = ev c 293 72 [l0, l1, l2, l3, l4, l5, l6, l7] L2 St S := ev_go i293_68 rfl
theorem i293_71 : insAt 293 71 = some (.iconst 0, 1, (0, 0, 0, 0), 0) := rfl
theorem s293_71 {c : Nat → List AV → SS → Option Out} {l0 l1 l2 l3 l4 l5 l6 l7 : Option AV} {L2 : List (Nat × AV)} {St : List AV} {S : SS} : ev c 293 71 [l0, l1, l2, l3, l4, l5, l6, l7] L2 St S = ev c 293 72 [l0, l1, l2, l3, l4, l5, l6, l7] L2 (aI 0 :: St) S := ev_go i293_71 rfl
theorem i293_72 : insAt 293 72 = some (.putfield 31, 3, (12, 7, 0, 0), 371) := rfl
theorem s293_72 {c : Nat → List AV → SS → Option Out} {l0 l1 l2 l3 l4 l5 l6 l7 : Option AV} {j t : Nat} {x : Int32} {L2 : List (Nat × AV)} {St : List AV} {S : SS} : ev c 293 72 [l0, l1, l2, l3, l4, l5, l6, l7] L2 (aI x :: aR (12, j, t) :: St) S = ev c 293 75 [l0, l1, l2, l3, l4, l5, l6, l7] L2 St (setI S.1 (12, j, t) 7 x, S.2) := ev_go i293_72 rfl
theorem i293_75 : insAt 293 75 = some (.aload_n 0, 1, (0, 0, 0, 0), 0) := rfl
theorem s293_75 {c : Nat → List AV → SS → Option Out} {l1 l2 l3 l4 l5 l6 l7 : Option AV} {o : OId} {L2 : List (Nat × AV)} {St : List AV} {S : SS} : ev c 293 75 [some (aR o), l1, l2, l3, l4, l5, l6, l7] L2 St S = ev c 293 76 [some (aR o), l1, l2, l3, l4, l5, l6, l7] L2 (aR o :: St) S := ev_go i293_75 rfl
theorem i293_76 : insAt 293 76 = some (.getfield 31, 3, (12, 7, 0, 0), 371) := rfl
theorem s293_76 {c : Nat → List AV → SS → Option Out} {l0 l1 l2 l3 l4 l5 l6 l7 : Option AV} {j t : Nat} {L2 : List (Nat × AV)} {St : List AV} {S : SS} : ev c 293 76 [l0, l1, l2, l3, l4, l5, l6, l7] L2 (aR (12, j, t) :: St) S = ev c 293 79 [l0, l1, l2, l3, l4, l5, l6, l7] L2 (aI (S.1 (12, j, t) 7) :: St) S := ev_go i293_76 rfl
theorem i293_79 : insAt 293 79 = some (.ifCond .le 5, 3, (0, 0, 0, 0), 0) := rfl
theorem s293_79 {c : Nat → List AV → SS → Option Out} {l0 l1 l2 l3 l4 l5 l6 l7 : Option AV} {x : Int32} {L2 : List (Nat × AV)} {St : List AV} {S : SS} : ev c 293 79 [l0, l1, l2, l3, l4, l5, l6, l7] L2 (aI x :: St) S = if x ≤ 0 then ev c 293 84 [l0, l1, l2, l3, l4, l5, l6, l7] L2 St S else ev c 293 82 [l0, l1, l2, l3, l4, l5, l6, l7] L2 St S := ev_br i293_79 rfl
theorem i293_82 : insAt 293 82 = some (.iconst 0, 1, (0, 0, 0, 0), 0) := rfl
theorem s293_82 {c : Nat → List AV → SS → Option Out} {l0 l1 l2 l3 l4 l5 l6 l7 : Option AV} {L2 : List (Nat × AV)} {St : List AV} {S : SS} : ev c 293 82 [l0, l1, l2, l3, l4, l5, l6, l7] L2 St S = ev c 293 83 [l0, l1, l2, l3, l4, l5, l6, l7] L2 (aI 0 :: St) S := ev_go i293_82 rfl
theorem i293_83 : insAt 293 83 = some (.ireturn, 1, (0, 0, 0, 0), 0) := rfl
theorem s293_83 {c : Nat → List AV → SS → Option Out} {l0 l1 l2 l3 l4 l5 l6 l7 : Option AV} {x : Int32} {L2 : List (Nat × AV)} {S : SS} : ev c 293 83 [l0, l1, l2, l3, l4, l5, l6, l7] L2 [aI x] S = some (.inl (some (aI x)), S) := ev_end i293_83 rfl
theorem i293_84 : insAt 293 84 = some (.aload_n 0, 1, (0, 0, 0, 0), 0) := rfl
theorem s293_84 {c : Nat → List AV → SS → Option Out} {l1 l2 l3 l4 l5 l6 l7 : Option AV} {o : OId} {L2 : List (Nat × AV)} {St : List AV} {S : SS} : ev c 293 84 [some (aR o), l1, l2, l3, l4, l5, l6, l7] L2 St S = ev c 293 85 [some (aR o), l1, l2, l3, l4, l5, l6, l7] L2 (aR o :: St) S := ev_go i293_84 rfl
theorem i293_85 : insAt 293 85 = some (.iload_n 3, 1, (0, 0, 0, 0), 0) := rfl
theorem s293_85 {c : Nat → List AV → SS → Option Out} {l0 l1 l2 l4 l5 l6 l7 : Option AV} {x : Int32} {L2 : List (Nat × AV)} {St : List AV} {S : SS} : ev c 293 85 [l0, l1, l2, some (aI x), l4, l5, l6, l7] L2 St S = ev c 293 86 [l0, l1, l2, some (aI x), l4, l5, l6, l7] L2 (aI x :: St) S := ev_go i293_85 rfl
theorem i293_86 : insAt 293 86 = some (.iload 4, 2, (0, 0, 0, 0), 0) := rfl
theorem s293_86 {c : Nat → List AV → SS → Option Out} {l0 l1 l2 l3 l5 l6 l7 : Option AV} {x : Int32} {L2 : List (Nat × AV)} {St : List AV} {S : SS} : ev c 293 86 [l0, l1, l2, l3, some (aI x), l5, l6, l7] L2 St S = ev c 293 88 [l0, l1, l2, l3, some (aI x), l5, l6, l7] L2 (aI x :: St) S := ev_go i293_86 rfl
theorem i293_88 : insAt 293 88 = some (.iload 5, 2, (0, 0, 0, 0), 0) := rfl
theorem s293_88 {c : Nat → List AV → SS → Option Out} {l0 l1 l2 l3 l4 l6 l7 : Option AV} {x : Int32} {L2 : List (Nat × AV)} {St : List AV} {S : SS} : ev c 293 88 [l0, l1, l2, l3, l4, some (aI x), l6, l7] L2 St S = ev c 293 90 [l0, l1, l2, l3, l4, some (aI x), l6, l7] L2 (aI x :: St) S := ev_go i293_88 rfl
theorem i293_90 : insAt 293 90 = some (.iconst 1, 1, (0, 0, 0, 0), 0) := rfl
theorem s293_90 {c : Nat → List AV → SS → Option Out} {l0 l1 l2 l3 l4 l5 l6 l7 : Option AV} {L2 : List (Nat × AV)} {St : List AV} {S : SS} : ev c 293 90 [l0, l1, l2, l3, l4, l5, l6, l7] L2 St S = ev c 293 91 [l0, l1, l2, l3, l4, l5, l6, l7] L2 (aI 1 :: St) S := ev_go i293_90 rfl
theorem i293_91 : insAt 293 91 = some (.iadd, 1, (0, 0, 0, 0), 0) := rfl
theorem s293_91 {c : Nat → List AV → SS → Option Out} {l0 l1 l2 l3 l4 l5 l6 l7 : Option AV} {x y : Int32} {L2 : List (Nat × AV)} {St : List AV} {S : SS} : ev c 293 91 [l0, l1, l2, l3, l4, l5, l6, l7] L2 (aI y :: aI x :: St) S = ev c 293 92 [l0, l1, l2, l3, l4, l5, l6, l7] L2 (aI (x + y) :: St) S := ev_go i293_91 rfl
theorem i293_92 : insAt 293 92 = some (.invokevirtual 83, 3, (245, 3, 2, 12), 409) := rfl
theorem s293_92 {c : Nat → List AV → SS → Option Out} {l0 l1 l2 l3 l4 l5 l6 l7 : Option AV} {a0 : Int32} {a1 : Int32} {a2 : Int32} {j t : Nat} {L2 : List (Nat × AV)} {S : SS} : ev c 293 92 [l0, l1, l2, l3, l4, l5, l6, l7] L2 [aI a2, aI a1, aI a0, aR (12, j, t)] S = ck (c 245 [aR (12, j, t), aI a0, aI a1, aI a2] S) (fun v S' => ev c 293 95 [l0, l1, l2, l3, l4, l5, l6, l7] L2 (v.toList ++ []) S') := ev_call i293_92 rfl
theorem i293_95 : insAt 293 95 = some (.aload_n 0, 1, (0, 0, 0, 0), 0) := rfl
theorem s293_95 {c : Nat → List AV → SS → Option Out} {l1 l2 l3 l4 l5 l6 l7 : Option AV} {o : OId} {L2 : List (Nat × AV)} {St : List AV} {S : SS} : ev c 293 95 [some (aR o), l1, l2, l3, l4, l5, l6, l7] L2 St S = ev c 293 96 [some (aR o), l1, l2, l3, l4, l5, l6, l7] L2 (aR o :: St) S := ev_go i293_95 rfl
theorem i293_96 : insAt 293 96 = some (.iload_n 3, 1, (0, 0, 0, 0), 0) := rfl
theorem s293_96 {c : Nat → List AV → SS → Option Out} {l0 l1 l2 l4 l5 l6 l7 : Option AV} {x : Int32} {L2 : List (Nat × AV)} {St : List AV} {S : SS} : ev c 293 96 [l0, l1, l2, some (aI x), l4, l5, l6, l7] L2 St S = ev c 293 97 [l0, l1, l2, some (aI x), l4, l5, l6, l7] L2 (aI x :: St) S := ev_go i293_96 rfl
theorem i293_97 : insAt 293 97 = some (.iload 4, 2, (0, 0, 0, 0), 0) := rfl
theorem s293_97 {c : Nat → List AV → SS → Option Out} {l0 l1 l2 l3 l5 l6 l7 : Option AV} {x : Int32} {L2 : List (Nat × AV)} {St : List AV} {S : SS} : ev c 293 97 [l0, l1, l2, l3, some (aI x), l5, l6, l7] L2 St S = ev c 293 99 [l0, l1, l2, l3, some (aI x), l5, l6, l7] L2 (aI x :: St) S := ev_go i293_97 rfl
theorem i293_99 : insAt 293 99 = some (.invokevirtual 144, 3, (248, 2, 2, 12), 412) := rfl
theorem s293_99 {c : Nat → List AV → SS → Option Out} {l0 l1 l2 l3 l4 l5 l6 l7 : Option AV} {a0 : Int32} {a1 : Int32} {j t : Nat} {L2 : List (Nat × AV)} {S : SS} : ev c 293 99 [l0, l1, l2, l3, l4, l5, l6, l7] L2 [aI a1, aI a0, aR (12, j, t)] S = ck (c 248 [aR (12, j, t), aI a0, aI a1] S) (fun v S' => ev c 293 102 [l0, l1, l2, l3, l4, l5, l6, l7] L2 (v.toList ++ []) S') := ev_call i293_99 rfl
theorem i293_102 : insAt 293 102 = some (.ifCond .eq 14, 3, (0, 0, 0, 0), 0) := rfl
theorem s293_102 {c : Nat → List AV → SS → Option Out} {l0 l1 l2 l3 l4 l5 l6 l7 : Option AV} {x : Int32} {L2 : List (Nat × AV)} {St : List AV} {S : SS} : ev c 293 102 [l0, l1, l2, l3, l4, l5, l6, l7] L2 (aI x :: St) S = if x = 0 then ev c 293 116 [l0, l1, l2, l3, l4, l5, l6, l7] L2 St S else ev c 293 105 [l0, l1, l2, l3, l4, l5, l6, l7] L2 St S := ev_br i293_102 rfl
theorem i293_105 : insAt 293 105 = some (.aload_n 0, 1, (0, 0, 0, 0), 0) := rfl
theorem s293_105 {c : Nat → List AV → SS → Option Out} {l1 l2 l3 l4 l5 l6 l7 : Option AV} {o : OId} {L2 : List (Nat × AV)} {St : List AV} {S : SS} : ev c 293 105 [some (aR o), l1, l2, l3, l4, l5, l6, l7] L2 St S = ev c 293 106 [some (aR o), l1, l2, l3, l4, l5, l6, l7] L2 (aR o :: St) S := ev_go i293_105 rfl
theorem i293_106 : insAt 293 106 = some (.iload 4, 2, (0, 0, 0, 0), 0) := rfl
theorem s293_106 {c : Nat → List AV → SS → Option Out} {l0 l1 l2 l3 l5 l6 l7 : Option AV} {x : Int32} {L2 : List (Nat × AV)} {St : List AV} {S : SS} : ev c 293 106 [l0, l1, l2, l3, some (aI x), l5, l6, l7] L2 St S = ev c 293 108 [l0, l1, l2, l3, some (aI x), l5, l6, l7] L2 (aI x :: St) S := ev_go i293_106 rfl
theorem i293_108 : insAt 293 108 = some (.iconst (-1), 1, (0, 0, 0, 0), 0) := rfl
theorem s293_108 {c : Nat → List AV → SS → Option Out} {l0 l1 l2 l3 l4 l5 l6 l7 : Option AV} {L2 : List (Nat × AV)} {St : List AV} {S : SS} : ev c 293 108 [l0, l1, l2, l3, l4, l5, l6, l7] L2 St S = ev c 293 109 [l0, l1, l2, l3, l4, l5, l6, l7] L2 (aI (-1) :: St) S := ev_go i293_108 rfl
theorem i293_109 : insAt 293 109 = some (.iload_n 3, 1, (0, 0, 0, 0), 0) := rfl
theorem s293_109 {c : Nat → List AV → SS → Option Out} {l0 l1 l2 l4 l5 l6 l7 : Option AV} {x : Int32} {L2 : List (Nat × AV)} {St : List AV} {S : SS} : ev c 293 109 [l0, l1, l2, some (aI x), l4, l5, l6, l7] L2 St S = ev c 293 110 [l0, l1, l2, some (aI x), l4, l5, l6, l7] L2 (aI x :: St) S := ev_go i293_109 rfl
theorem i293_110 : insAt 293 110 = some (.invokevirtual 198, 3, (289, 3, 2, 12), 422) := rfl
theorem s293_110 {c : Nat → List AV → SS → Option Out} {l0 l1 l2 l3 l4 l5 l6 l7 : Option AV} {a0 : Int32} {a1 : Int32} {a2 : Int32} {j t : Nat} {L2 : List (Nat × AV)} {S : SS} : ev c 293 110 [l0, l1, l2, l3, l4, l5, l6, l7] L2 [aI a2, aI a1, aI a0, aR (12, j, t)] S = ck (c 289 [aR (12, j, t), aI a0, aI a1, aI a2] S) (fun v S' => ev c 293 113 [l0, l1, l2, l3, l4, l5, l6, l7] L2 (v.toList ++ []) S') := ev_call i293_110 rfl
theorem i293_113 : insAt 293 113 = some (.goto 4, 3, (0, 0, 0, 0), 0) := rfl
theorem s293_113 {c : Nat → List AV → SS → Option Out} {l0 l1 l2 l3 l4 l5 l6 l7 : Option AV} {L2 : List (Nat × AV)} {St : List AV} {S : SS} : ev c 293 113 [l0, l1, l2, l3, l4, l5, l6, l7] L2 St S = ev c 293 117 [l0, l1, l2, l3, l4, l5, l6, l7] L2 St S := ev_go i293_113 rfl
theorem i293_116 : insAt 293 116 = some (.iconst 0, 1, (0, 0, 0, 0), 0) := rfl
theorem s293_116 {c : Nat → List AV → SS → Option Out} {l0 l1 l2 l3 l4 l5 l6 l7 : Option AV} {L2 : List (Nat × AV)} {St : List AV} {S : SS} : ev c 293 116 [l0, l1, l2, l3, l4, l5, l6, l7] L2 St S = ev c 293 117 [l0, l1, l2, l3, l4, l5, l6, l7] L2 (aI 0 :: St) S := ev_go i293_116 rfl
theorem i293_117 : insAt 293 117 = some (.istore 6, 2, (0, 0, 0, 0), 0) := rfl
theorem s293_117 {c : Nat → List AV → SS → Option Out} {l0 l1 l2 l3 l4 l5 l6 l7 : Option AV} {x : Int32} {L2 : List (Nat × AV)} {St : List AV} {S : SS} : ev c 293 117 [l0, l1, l2, l3, l4, l5, l6, l7] L2 (aI x :: St) S = ev c 293 119 [l0, l1, l2, l3, l4, l5, some (aI x), l7] (kil L2 6) St S := ev_go i293_117 rfl
theorem i293_119 : insAt 293 119 = some (.aload_n 0, 1, (0, 0, 0, 0), 0) := rfl
theorem s293_119 {c : Nat → List AV → SS → Option Out} {l1 l2 l3 l4 l5 l6 l7 : Option AV} {o : OId} {L2 : List (Nat × AV)} {St : List AV} {S : SS} : ev c 293 119 [some (aR o), l1, l2, l3, l4, l5, l6, l7] L2 St S = ev c 293 120 [some (aR o), l1, l2, l3, l4, l5, l6, l7] L2 (aR o :: St) S := ev_go i293_119 rfl
theorem i293_120 : insAt 293 120 = some (.iload_n 3, 1, (0, 0, 0, 0), 0) := rfl
theorem s293_120 {c : Nat → List AV → SS → Option Out} {l0 l1 l2 l4 l5 l6 l7 : Option AV} {x : Int32} {L2 : List (Nat × AV)} {St : List AV} {S : SS} : ev c 293 120 [l0, l1, l2, some (aI x), l4, l5, l6, l7] L2 St S = ev c 293 121 [l0, l1, l2, some (aI x), l4, l5, l6, l7] L2 (aI x :: St) S := ev_go i293_120 rfl
theorem i293_121 : insAt 293 121 = some (.iload 4, 2, (0, 0, 0, 0), 0) := rfl
theorem s293_121 {c : Nat → List AV → SS → Option Out} {l0 l1 l2 l3 l5 l6 l7 : Option AV} {x : Int32} {L2 : List (Nat × AV)} {St : List AV} {S : SS} : ev c 293 121 [l0, l1, l2, l3, some (aI x), l5, l6, l7] L2 St S = ev c 293 123 [l0, l1, l2, l3, some (aI x), l5, l6, l7] L2 (aI x :: St) S := ev_go i293_121 rfl
theorem i293_123 : insAt 293 123 = some (.invokevirtual 144, 3, (248, 2, 2, 12), 412) := rfl
theorem s293_123 {c : Nat → List AV → SS → Option Out} {l0 l1 l2 l3 l4 l5 l6 l7 : Option AV} {a0 : Int32} {a1 : Int32} {j t : Nat} {L2 : List (Nat × AV)} {S : SS} : ev c 293 123 [l0, l1, l2, l3, l4, l5, l6, l7] L2 [aI a1, aI a0, aR (12, j, t)] S = ck (c 248 [aR (12, j, t), aI a0, aI a1] S) (fun v S' => ev c 293 126 [l0, l1, l2, l3, l4, l5, l6, l7] L2 (v.toList ++ []) S') := ev_call i293_123 rfl
theorem i293_126 : insAt 293 126 = some (.istore 7, 2, (0, 0, 0, 0), 0) := rfl
theorem s293_126 {c : Nat → List AV → SS → Option Out} {l0 l1 l2 l3 l4 l5 l6 l7 : Option AV} {x : Int32} {L2 : List (Nat × AV)} {St : List AV} {S : SS} : ev c 293 126 [l0, l1, l2, l3, l4, l5, l6, l7] L2 (aI x :: St) S = ev c 293 128 [l0, l1, l2, l3, l4, l5, l6, some (aI x)] (kil L2 7) St S := ev_go i293_126 rfl
theorem i293_128 : insAt 293 128 = some (.aload_n 0, 1, (0, 0, 0, 0), 0) := rfl
theorem s293_128 {c : Nat → List AV → SS → Option Out} {l1 l2 l3 l4 l5 l6 l7 : Option AV} {o : OId} {L2 : List (Nat × AV)} {St : List AV} {S : SS} : ev c 293 128 [some (aR o), l1, l2, l3, l4, l5, l6, l7] L2 St S = ev c 293 129 [some (aR o), l1, l2, l3, l4, l5, l6, l7] L2 (aR o :: St) S := ev_go i293_128 rfl
theorem i293_129 : insAt 293 129 = some (.iload_n 3, 1, (0, 0, 0, 0), 0) := rfl
theorem s293_129 {c : Nat → List AV → SS → Option Out} {l0 l1 l2 l4 l5 l6 l7 : Option AV} {x : Int32} {L2 : List (Nat × AV)} {St : List AV} {S : SS} : ev c 293 129 [l0, l1, l2, some (aI x), l4, l5, l6, l7] L2 St S = ev c 293 130 [l0, l1, l2, some (aI x), l4, l5, l6, l7] L2 (aI x :: St) S := ev_go i293_129 rfl
theorem i293_130 : insAt 293 130 = some (.iload 4, 2, (0, 0, 0, 0), 0) := rfl
theorem s293_130 {c : Nat → List AV → SS → Option Out} {l0 l1 l2 l3 l5 l6 l7 : Option AV} {x : Int32} {L2 : List (Nat × AV)} {St : List AV} {S : SS} : ev c 293 130 [l0, l1, l2, l3, some (aI x), l5, l6, l7] L2 St S = ev c 293 132 [l0, l1, l2, l3, some (aI x), l5, l6, l7] L2 (aI x :: St) S := ev_go i293_130 rfl
theorem i293_132 : insAt 293 132 = some (.iload 5, 2, (0, 0, 0, 0), 0) := rfl
theorem s293_132 {c : Nat → List AV → SS → Option Out} {l0 l1 l2 l3 l4 l6 l7 : Option AV} {x : Int32} {L2 : List (Nat × AV)} {St : List AV} {S : SS} : ev c 293 132 [l0, l1, l2, l3, l4, some (aI x), l6, l7] L2 St S = ev c 293 134 [l0, l1, l2, l3, l4, some (aI x), l6, l7] L2 (aI x :: St) S := ev_go i293_132 rfl
theorem i293_134 : insAt 293 134 = some (.invokevirtual 83, 3, (245, 3, 2, 12), 409) := rfl
theorem s293_134 {c : Nat → List AV → SS → Option Out} {l0 l1 l2 l3 l4 l5 l6 l7 : Option AV} {a0 : Int32} {a1 : Int32} {a2 : Int32} {j t : Nat} {L2 : List (Nat × AV)} {S : SS} : ev c 293 134 [l0, l1, l2, l3, l4, l5, l6, l7] L2 [aI a2, aI a1, aI a0, aR (12, j, t)] S = ck (c 245 [aR (12, j, t), aI a0, aI a1, aI a2] S) (fun v S' => ev c 293 137 [l0, l1, l2, l3, l4, l5, l6, l7] L2 (v.toList ++ []) S') := ev_call i293_134 rfl
theorem i293_137 : insAt 293 137 = some (.aload_n 0, 1, (0, 0, 0, 0), 0) := rfl
theorem s293_137 {c : Nat → List AV → SS → Option Out} {l1 l2 l3 l4 l5 l6 l7 : Option AV} {o : OId} {L2 : List (Nat × AV)} {St : List AV} {S : SS} : ev c 293 137 [some (aR o), l1, l2, l3, l4, l5, l6, l7] L2 St S = ev c 293 138 [some (aR o), l1, l2, l3, l4, l5, l6, l7] L2 (aR o :: St) S := ev_go i293_137 rfl
theorem i293_138 : insAt 293 138 = some (.iload 6, 2, (0, 0, 0, 0), 0) := rfl
theorem s293_138 {c : Nat → List AV → SS → Option Out} {l0 l1 l2 l3 l4 l5 l7 : Option AV} {x : Int32} {L2 : List (Nat × AV)} {St : List AV} {S : SS} : ev c 293 138 [l0, l1, l2, l3, l4, l5, some (aI x), l7] L2 St S = ev c 293 140 [l0, l1, l2, l3, l4, l5, some (aI x), l7] L2 (aI x :: St) S := ev_go i293_138 rfl
theorem i293_140 : insAt 293 140 = some (.ifCond .ge 7, 3, (0, 0, 0, 0), 0) := rfl
theorem s293_140 {c : Nat → List AV → SS → Option Out} {l0 l1 l2 l3 l4 l5 l6 l7 : Option AV} {x : Int32} {L2 : List (Nat × AV)} {St : List AV} {S : SS} : ev c 293 140 [l0, l1, l2, l3, l4, l5, l6, l7] L2 (aI x :: St) S = if 0 ≤ x then ev c 293 147 [l0, l1, l2, l3, l4, l5, l6, l7] L2 St S else ev c 293 143 [l0, l1, l2, l3, l4, l5, l6, l7] L2 St S := ev_br i293_140 rfl
theorem i293_143 : insAt 293 143 = some (.iconst 4, 1, (0, 0, 0, 0), 0) := rfl
theorem s293_143 {c : Nat → List AV → SS → Option Out} {l0 l1 l2 l3 l4 l5 l6 l7 : Option AV} {L2 : List (Nat × AV)} {St : List AV} {S : SS} : ev c 293 143 [l0, l1, l2, l3, l4, l5, l6, l7] L2 St S = ev c 293 144 [l0, l1, l2, l3, l4, l5, l6, l7] L2 (aI 4 :: St) S := ev_go i293_143 rfl
theorem i293_144 : insAt 293 144 = some (.goto 4, 3, (0, 0, 0, 0), 0) := rfl
theorem s293_144 {c : Nat → List AV → SS → Option Out} {l0 l1 l2 l3 l4 l5 l6 l7 : Option AV} {L2 : List (Nat × AV)} {St : List AV} {S : SS} : ev c 293 144 [l0, l1, l2, l3, l4, l5, l6, l7] L2 St S = ev c 293 148 [l0, l1, l2, l3, l4, l5, l6, l7] L2 St S := ev_go i293_144 rfl
theorem i293_147 : insAt 293 147 = some (.iconst 0, 1, (0, 0, 0, 0), 0) := rfl
theorem s293_147 {c : Nat → List AV → SS → Option Out} {l0 l1 l2 l3 l4 l5 l6 l7 : Option AV} {L2 : List (Nat × AV)} {St : List AV} {S : SS} : ev c 293 147 [l0, l1, l2, l3, l4, l5, l6, l7] L2 St S = ev c 293 148 [l0, l1, l2, l3, l4, l5, l6, l7] L2 (aI 0 :: St) S := ev_go i293_147 rfl
theorem i293_148 : insAt 293 148 = some (.putfield 31, 3, (12, 7, 0, 0), 371) := rfl
theorem s293_148 {c : Nat → List AV → SS → Option Out} {l0 l1 l2 l3 l4 l5 l6 l7 : Option AV} {j t : Nat} {x : Int32} {L2 : List (Nat × AV)} {St : List AV} {S : SS} : ev c 293 148 [l0, l1, l2, l3, l4, l5, l6, l7] L2 (aI x :: aR (12, j, t) :: St) S = ev c 293 151 [l0, l1, l2, l3, l4, l5, l6, l7] L2 St (setI S.1 (12, j, t) 7 x, S.2) := ev_go i293_148 rfl
theorem i293_151 : insAt 293 151 = some (.aload_n 0, 1, (0, 0, 0, 0), 0) := rfl
theorem s293_151 {c : Nat → List AV → SS → Option Out} {l1 l2 l3 l4 l5 l6 l7 : Option AV} {o : OId} {L2 : List (Nat × AV)} {St : List AV} {S : SS} : ev c 293 151 [some (aR o), l1, l2, l3, l4, l5, l6, l7] L2 St S = ev c 293 152 [some (aR o), l1, l2, l3, l4, l5, l6, l7] L2 (aR o :: St) S := ev_go i293_151 rfl
theorem i293_152 : insAt 293 152 = some (.getfield 31, 3, (12, 7, 0, 0), 371) := rfl
theorem s293_152 {c : Nat → List AV → SS → Option Out} {l0 l1 l2 l3 l4 l5 l6 l7 : Option AV} {j t : Nat} {L2 : List (Nat × AV)} {St : List AV} {S : SS} : ev c 293 152 [l0, l1, l2, l3, l4, l5, l6, l7] L2 (aR (12, j, t) :: St) S = ev c 293 155 [l0, l1, l2, l3, l4, l5, l6, l7] L2 (aI (S.1 (12, j, t) 7) :: St) S := ev_go i293_152 rfl
theorem i293_155 : insAt 293 155 = some (.ifCond .le 5, 3, (0, 0, 0, 0), 0) := rfl
theorem s293_155 {c : Nat → List AV → SS → Option Out} {l0 l1 l2 l3 l4 l5 l6 l7 : Option AV} {x : Int32} {L2 : List (Nat × AV)} {St : List AV} {S : SS} : ev c 293 155 [l0, l1, l2, l3, l4, l5, l6, l7] L2 (aI x :: St) S = if x ≤ 0 then ev c 293 160 [l0, l1, l2, l3, l4, l5, l6, l7] L2 St S else ev c 293 158 [l0, l1, l2, l3, l4, l5, l6, l7] L2 St S := ev_br i293_155 rfl
theorem i293_158 : insAt 293 158 = some (.iconst 0, 1, (0, 0, 0, 0), 0) := rfl
theorem s293_158 {c : Nat → List AV → SS → Option Out} {l0 l1 l2 l3 l4 l5 l6 l7 : Option AV} {L2 : List (Nat × AV)} {St : List AV} {S : SS} : ev c 293 158 [l0, l1, l2, l3, l4, l5, l6, l7] L2 St S = ev c 293 159 [l0, l1, l2, l3, l4, l5, l6, l7] L2 (aI 0 :: St) S := ev_go i293_158 rfl
theorem i293_159 : insAt 293 159 = some (.ireturn, 1, (0, 0, 0, 0), 0) := rfl
theorem s293_159 {c : Nat → List AV → SS → Option Out} {l0 l1 l2 l3 l4 l5 l6 l7 : Option AV} {x : Int32} {L2 : List (Nat × AV)} {S : SS} : ev c 293 159 [l0, l1, l2, l3, l4, l5, l6, l7] L2 [aI x] S = some (.inl (some (aI x)), S) := ev_end i293_159 rfl
theorem i293_160 : insAt 293 160 = some (.aload_n 0, 1, (0, 0, 0, 0), 0) := rfl
theorem s293_160 {c : Nat → List AV → SS → Option Out} {l1 l2 l3 l4 l5 l6 l7 : Option AV} {o : OId} {L2 : List (Nat × AV)} {St : List AV} {S : SS} : ev c 293 160 [some (aR o), l1, l2, l3, l4, l5, l6, l7] L2 St S = ev c 293 161 [some (aR o), l1, l2, l3, l4, l5, l6, l7] L2 (aR o :: St) S := ev_go i293_160 rfl
theorem i293_161 : insAt 293 161 = some (.invokevirtual 86, 3, (217, 0, 2, 12), 384) := rfl
theorem s293_161 {c : Nat → List AV → SS → Option Out} {l0 l1 l2 l3 l4 l5 l6 l7 : Option AV} {j t : Nat} {L2 : List (Nat × AV)} {S : SS} : ev c 293 161 [l0, l1, l2, l3, l4, l5, l6, l7] L2 [aR (12, j, t)] S = ck (c 217 [aR (12, j, t)] S) (fun v S' => ev c 293 164 [l0, l1, l2, l3, l4, l5, l6, l7] L2 (v.toList ++ []) S') := ev_call i293_161 rfl
theorem i293_164 : insAt 293 164 = some (.aload_n 0, 1, (0, 0, 0, 0), 0) := rfl
theorem s293_164 {c : Nat → List AV → SS → Option Out} {l1 l2 l3 l4 l5 l6 l7 : Option AV} {o : OId} {L2 : List (Nat × AV)} {St : List AV} {S : SS} : ev c 293 164 [some (aR o), l1, l2, l3, l4, l5, l6, l7] L2 St S = ev c 293 165 [some (aR o), l1, l2, l3, l4, l5, l6, l7] L2 (aR o :: St) S := ev_go i293_164 rfl
theorem i293_165 : insAt 293 165 = some (.iload_n 3, 1, (0, 0, 0, 0), 0) := rfl
theorem s293_165 {c : Nat → List AV → SS → Option Out} {l0 l1 l2 l4 l5 l6 l7 : Option AV} {x : Int32} {L2 : List (Nat × AV)} {St : List AV} {S : SS} : ev c 293 165 [l0, l1, l2, some (aI x), l4, l5, l6, l7] L2 St S = ev c 293 166 [l0, l1, l2, some (aI x), l4, l5, l6, l7] L2 (aI x :: St) S := ev_go i293_165 rfl
theorem i293_166 : insAt 293 166 = some (.iload 4, 2, (0, 0, 0, 0), 0) := rfl
theorem s293_166 {c : Nat → List AV → SS → Option Out} {l0 l1 l2 l3 l5 l6 l7 : Option AV} {x : Int32} {L2 : List (Nat × AV)} {St : List AV} {S : SS} : ev c 293 166 [l0, l1, l2, l3, some (aI x), l5, l6, l7] L2 St S = ev c 293 168 [l0, l1, l2, l3, some (aI x), l5, l6, l7] L2 (aI x :: St) S := ev_go i293_166 rfl
theorem i293_168 : insAt 293 168 = some (.iload 5, 2, (0, 0, 0, 0), 0) := rfl
theorem s293_168 {c : Nat → List AV → SS → Option Out} {l0 l1 l2 l3 l4 l6 l7 : Option AV} {x : Int32} {L2 : List (Nat × AV)} {St : List AV} {S : SS} : ev c 293 168 [l0, l1, l2, l3, l4, some (aI x), l6, l7] L2 St S = ev c 293 170 [l0, l1, l2, l3, l4, some (aI x), l6, l7] L2 (aI x :: St) S := ev_go i293_168 rfl
theorem i293_170 : insAt 293 170 = some (.iconst 1, 1, (0, 0, 0, 0), 0) := rfl
theorem s293_170 {c : Nat → List AV → SS → Option Out} {l0 l1 l2 l3 l4 l5 l6 l7 : Option AV} {L2 : List (Nat × AV)} {St : List AV} {S : SS} : ev c 293 170 [l0, l1, l2, l3, l4, l5, l6, l7] L2 St S = ev c 293 171 [l0, l1, l2, l3, l4, l5, l6, l7] L2 (aI 1 :: St) S := ev_go i293_170 rfl
theorem i293_171 : insAt 293 171 = some (.iadd, 1, (0, 0, 0, 0), 0) := rfl
theorem s293_171 {c : Nat → List AV → SS → Option Out} {l0 l1 l2 l3 l4 l5 l6 l7 : Option AV} {x y : Int32} {L2 : List (Nat × AV)} {St : List AV} {S : SS} : ev c 293 171 [l0, l1, l2, l3, l4, l5, l6, l7] L2 (aI y :: aI x :: St) S = ev c 293 172 [l0, l1, l2, l3, l4, l5, l6, l7] L2 (aI (x + y) :: St) S := ev_go i293_171 rfl
theorem i293_172 : insAt 293 172 = some (.invokevirtual 83, 3, (245, 3, 2, 12), 409) := rfl
theorem s293_172 {c : Nat → List AV → SS → Option Out} {l0 l1 l2 l3 l4 l5 l6 l7 : Option AV} {a0 : Int32} {a1 : Int32} {a2 : Int32} {j t : Nat} {L2 : List (Nat × AV)} {S : SS} : ev c 293 172 [l0, l1, l2, l3, l4, l5, l6, l7] L2 [aI a2, aI a1, aI a0, aR (12, j, t)] S = ck (c 245 [aR (12, j, t), aI a0, aI a1, aI a2] S) (fun v S' => ev c 293 175 [l0, l1, l2, l3, l4, l5, l6, l7] L2 (v.toList ++ []) S') := ev_call i293_172 rfl
theorem i293_175 : insAt 293 175 = some (.iload 7, 2, (0, 0, 0, 0), 0) := rfl
theorem s293_175 {c : Nat → List AV → SS → Option Out} {l0 l1 l2 l3 l4 l5 l6 : Option AV} {x : Int32} {L2 : List (Nat × AV)} {St : List AV} {S : SS} : ev c 293 175 [l0, l1, l2, l3, l4, l5, l6, some (aI x)] L2 St S = ev c 293 177 [l0, l1, l2, l3, l4, l5, l6, some (aI x)] L2 (aI x :: St) S := ev_go i293_175 rfl
theorem i293_177 : insAt 293 177 = some (.ifCond .ne 5, 3, (0, 0, 0, 0), 0) := rfl
theorem s293_177 {c : Nat → List AV → SS → Option Out} {l0 l1 l2 l3 l4 l5 l6 l7 : Option AV} {x : Int32} {L2 : List (Nat × AV)} {St : List AV} {S : SS} : ev c 293 177 [l0, l1, l2, l3, l4, l5, l6, l7] L2 (aI x :: St) S = if x = 0 then ev c 293 180 [l0, l1, l2, l3, l4, l5, l6, l7] L2 St S else ev c 293 182 [l0, l1, l2, l3, l4, l5, l6, l7] L2 St S := (ev_br i293_177 rfl).trans (ite_not _ _ _)
theorem i293_180 : insAt 293 180 = some (.iconst 0, 1, (0, 0, 0, 0), 0) := rfl
theorem s293_180 {c : Nat → List AV → SS → Option Out} {l0 l1 l2 l3 l4 l5 l6 l7 : Option AV} {L2 : List (Nat × AV)} {St : List AV} {S : SS} : ev c 293 180 [l0, l1, l2, l3, l4, l5, l6, l7] L2 St S = ev c 293 181 [l0, l1, l2, l3, l4, l5, l6, l7] L2 (aI 0 :: St) S := ev_go i293_180 rfl
theorem i293_181 : insAt 293 181 = some (.ireturn, 1, (0, 0, 0, 0), 0) := rfl
theorem s293_181 {c : Nat → List AV → SS → Option Out} {l0 l1 l2 l3 l4 l5 l6 l7 : Option AV} {x : Int32} {L2 : List (Nat × AV)} {S : SS} : ev c 293 181 [l0, l1, l2, l3, l4, l5, l6, l7] L2 [aI x] S = some (.inl (some (aI x)), S) := ev_end i293_181 rfl
theorem i293_182 : insAt 293 182 = some (.aload_n 0, 1, (0, 0, 0, 0), 0) := rfl
theorem s293_182 {c : Nat → List AV → SS → Option Out} {l1 l2 l3 l4 l5 l6 l7 : Option AV} {o : OId} {L2 : List (Nat × AV)} {St : List AV} {S : SS} : ev c 293 182 [some (aR o), l1, l2, l3, l4, l5, l6, l7] L2 St S = ev c 293 183 [some (aR o), l1, l2, l3, l4, l5, l6, l7] L2 (aR o :: St) S := ev_go i293_182 rfl
theorem i293_183 : insAt 293 183 = some (.iload 4, 2, (0, 0, 0, 0), 0) := rfl
theorem s293_183 {c : Nat → List AV → SS → Option Out} {l0 l1 l2 l3 l5 l6 l7 : Option AV} {x : Int32} {L2 : List (Nat × AV)} {St : List AV} {S : SS} : ev c 293 183 [l0, l1, l2, l3, some (aI x), l5, l6, l7] L2 St S = ev c 293 185 [l0, l1, l2, l3, some (aI x), l5, l6, l7] L2 (aI x :: St) S := ev_go i293_183 rfl
theorem i293_185 : insAt 293 185 = some (.iload 6, 2, (0, 0, 0, 0), 0) := rfl
theorem s293_185 {c : Nat → List AV → SS → Option Out} {l0 l1 l2 l3 l4 l5 l7 : Option AV} {x : Int32} {L2 : List (Nat × AV)} {St : List AV} {S : SS} : ev c 293 185 [l0, l1, l2, l3, l4, l5, some (aI x), l7] L2 St S = ev c 293 187 [l0, l1, l2, l3, l4, l5, some (aI x), l7] L2 (aI x :: St) S := ev_go i293_185 rfl
theorem i293_187 : insAt 293 187 = some (.invokevirtual 204, 3, (292, 2, 2, 12), 424) := rfl
theorem s293_187 {c : Nat → List AV → SS → Option Out} {l0 l1 l2 l3 l4 l5 l6 l7 : Option AV} {a0 : Int32} {a1 : Int32} {j t : Nat} {L2 : List (Nat × AV)} {S : SS} : ev c 293 187 [l0, l1, l2, l3, l4, l5, l6, l7] L2 [aI a1, aI a0, aR (12, j, t)] S = ck (c 292 [aR (12, j, t), aI a0, aI a1] S) (fun v S' => ev c 293 190 [l0, l1, l2, l3, l4, l5, l6, l7] L2 (v.toList ++ []) S') := ev_call i293_187 rfl
theorem i293_190 : insAt 293 190 = some (.iload 6, 2, (0, 0, 0, 0), 0) := rfl
theorem s293_190 {c : Nat → List AV → SS → Option Out} {l0 l1 l2 l3 l4 l5 l7 : Option AV} {x : Int32} {L2 : List (Nat × AV)} {St : List AV} {S : SS} : ev c 293 190 [l0, l1, l2, l3, l4, l5, some (aI x), l7] L2 St S = ev c 293 192 [l0, l1, l2, l3, l4, l5, some (aI x), l7] L2 (aI x :: St) S := ev_go i293_190 rfl
theorem i293_192 : insAt 293 192 = some (.iconst 1, 1, (0, 0, 0, 0), 0) := rfl
theorem s293_192 {c : Nat → List AV → SS → Option Out} {l0 l1 l2 l3 l4 l5 l6 l7 : Option AV} {L2 : List (Nat × AV)} {St : List AV} {S : SS} : ev c 293 192 [l0, l1, l2, l3, l4, l5, l6, l7] L2 St S = ev c 293 193 [l0, l1, l2, l3, l4, l5, l6, l7] L2 (aI 1 :: St) S := ev_go i293_192 rfl
theorem i293_193 : insAt 293 193 = some (.iadd, 1, (0, 0, 0, 0), 0) := rfl
theorem s293_193 {c : Nat → List AV → SS → Option Out} {l0 l1 l2 l3 l4 l5 l6 l7 : Option AV} {x y : Int32} {L2 : List (Nat × AV)} {St : List AV} {S : SS} : ev c 293 193 [l0, l1, l2, l3, l4, l5, l6, l7] L2 (aI y :: aI x :: St) S = ev c 293 194 [l0, l1, l2, l3, l4, l5, l6, l7] L2 (aI (x + y) :: St) S := ev_go i293_193 rfl
theorem i293_194 : insAt 293 194 = some (.ireturn, 1, (0, 0, 0, 0), 0) := rfl
theorem s293_194 {c : Nat → List AV → SS → Option Out} {l0 l1 l2 l3 l4 l5 l6 l7 : Option AV} {x : Int32} {L2 : List (Nat × AV)} {S : SS} : ev c 293 194 [l0, l1, l2, l3, l4, l5, l6, l7] L2 [aI x] S = some (.inl (some (aI x)), S) := ev_end i293_194 rfl
theorem m293 {d : Nat} {o : OId} {a0 : Int32} {a1 : Int32} {S : SS} : evm (d + 1) 293 [aR o, aI a0, aI a1] S = ev (evm d) 293 0 [some (aR o), some (aI a0), some (aI a1), none, none, none, none, none] [] [] S := evm_s (n := 8) rfl (Nat.le_of_ble_eq_true rfl) rfl rfl
/-! FrequencyOfficeModel.moveCount()I -/
theorem i294_0 : insAt 294 0 = some (.aload_n 0, 1, (0, 0, 0, 0), 0) := rfl
theorem s294_0 {c : Nat → List AV → SS → Option Out} {o : OId} {L2 : List (Nat × AV)} {St : List AV} {S : SS} : ev c 294 0 [some (aR o)] L2 St S = ev c 294 1 [some (aR o)] L2 (aR o :: St) S := ev_go i294_0 rfl
theorem i294_1 : insAt 294 1 = some (.aload_n 0, 1, (0, 0, 0, 0), 0) := rfl
theorem s294_1 {c : Nat → List AV → SS → Option Out} {o : OId} {L2 : List (Nat × AV)} {St : List AV} {S : SS} : ev c 294 1 [some (aR o)] L2 St S = ev c 294 2 [some (aR o)] L2 (aR o :: St) S := ev_go i294_1 rfl
theorem i294_2 : insAt 294 2 = some (.getfield 7, 3, (12, 0, 0, 0), 364) := rfl
theorem s294_2 {c : Nat → List AV → SS → Option Out} {l0 : Option AV} {j t : Nat} {L2 : List (Nat × AV)} {St : List AV} {S : SS} : ev c 294 2 [l0] L2 (aR (12, j, t) :: St) S = ev c 294 5 [l0] L2 (S.2.2.1 (12, j, t) 0 :: St) S := ev_go i294_2 rfl
theorem i294_5 : insAt 294 5 = some (.bipush 8, 2, (0, 0, 0, 0), 0) := rfl
theorem s294_5 {c : Nat → List AV → SS → Option Out} {l0 : Option AV} {L2 : List (Nat × AV)} {St : List AV} {S : SS} : ev c 294 5 [l0] L2 St S = ev c 294 7 [l0] L2 (aI 8 :: St) S := ev_go i294_5 rfl
theorem i294_7 : insAt 294 7 = some (.iaload, 1, (0, 0, 0, 0), 0) := rfl
theorem s294_7 {c : Nat → List AV → SS → Option Out} {l0 : Option AV} {i : Int32} {o : OId} {L2 : List (Nat × AV)} {St : List AV} {S : SS} : ev c 294 7 [l0] L2 (aI i :: aR o :: St) S = kI o i (ev c 294 8 [l0] L2 (aI (agI S o i.toNatClampNeg) :: St) S) := ev_iaload i294_7
theorem i294_8 : insAt 294 8 = some (.ifCond .lt 7, 3, (0, 0, 0, 0), 0) := rfl
theorem s294_8 {c : Nat → List AV → SS → Option Out} {l0 : Option AV} {x : Int32} {L2 : List (Nat × AV)} {St : List AV} {S : SS} : ev c 294 8 [l0] L2 (aI x :: St) S = if x < 0 then ev c 294 15 [l0] L2 St S else ev c 294 11 [l0] L2 St S := ev_br i294_8 rfl
theorem i294_11 : insAt 294 11 = some (.iconst 1, 1, (0, 0, 0, 0), 0) := rfl
theorem s294_11 {c : Nat → List AV → SS → Option Out} {l0 : Option AV} {L2 : List (Nat × AV)} {St : List AV} {S : SS} : ev c 294 11 [l0] L2 St S = ev c 294 12 [l0] L2 (aI 1 :: St) S := ev_go i294_11 rfl
theorem i294_12 : insAt 294 12 = some (.goto 4, 3, (0, 0, 0, 0), 0) := rfl
theorem s294_12 {c : Nat → List AV → SS → Option Out} {l0 : Option AV} {L2 : List (Nat × AV)} {St : List AV} {S : SS} : ev c 294 12 [l0] L2 St S = ev c 294 16 [l0] L2 St S := ev_go i294_12 rfl
theorem i294_15 : insAt 294 15 = some (.iconst 0, 1, (0, 0, 0, 0), 0) := rfl
theorem s294_15 {c : Nat → List AV → SS → Option Out} {l0 : Option AV} {L2 : List (Nat × AV)} {St : List AV} {S : SS} : ev c 294 15 [l0] L2 St S = ev c 294 16 [l0] L2 (aI 0 :: St) S := ev_go i294_15 rfl
theorem i294_16 : insAt 294 16 = some (.invokevirtual 176, 3, (256, 1, 2, 12), 415) := rfl
theorem s294_16 {c : Nat → List AV → SS → Option Out} {l0 : Option AV} {a0 : Int32} {j t : Nat} {L2 : List (Nat × AV)} {S : SS} : ev c 294 16 [l0] L2 [aI a0, aR (12, j, t)] S = ck (c 256 [aR (12, j, t), aI a0] S) (fun v S' => ev c 294 19 [l0] L2 (v.toList ++ []) S') := ev_call i294_16 rfl
theorem i294_19 : insAt 294 19 = some (.ifCond .le 7, 3, (0, 0, 0, 0), 0) := rfl
theorem s294_19 {c : Nat → List AV → SS → Option Out} {l0 : Option AV} {x : Int32} {L2 : List (Nat × AV)} {St : List AV} {S : SS} : ev c 294 19 [l0] L2 (aI x :: St) S = if x ≤ 0 then ev c 294 26 [l0] L2 St S else ev c 294 22 [l0] L2 St S := ev_br i294_19 rfl
theorem i294_22 : insAt 294 22 = some (.iconst 0, 1, (0, 0, 0, 0), 0) := rfl
theorem s294_22 {c : Nat → List AV → SS → Option Out} {l0 : Option AV} {L2 : List (Nat × AV)} {St : List AV} {S : SS} : ev c 294 22 [l0] L2 St S = ev c 294 23 [l0] L2 (aI 0 :: St) S := ev_go i294_22 rfl
theorem i294_23 : insAt 294 23 = some (.goto 10, 3, (0, 0, 0, 0), 0) := rfl
theorem s294_23 {c : Nat → List AV → SS → Option Out} {l0 : Option AV} {L2 : List (Nat × AV)} {St : List AV} {S : SS} : ev c 294 23 [l0] L2 St S = ev c 294 33 [l0] L2 St S := ev_go i294_23 rfl
theorem i294_26 : insAt 294 26 = some (.aload_n 0, 1, (0, 0, 0, 0), 0) := rfl
theorem s294_26 {c : Nat → List AV → SS → Option Out} {o : OId} {L2 : List (Nat × AV)} {St : List AV} {S : SS} : ev c 294 26 [some (aR o)] L2 St S = ev c 294 27 [some (aR o)] L2 (aR o :: St) S := ev_go i294_26 rfl
theorem i294_27 : insAt 294 27 = some (.getfield 7, 3, (12, 0, 0, 0), 364) := rfl
theorem s294_27 {c : Nat → List AV → SS → Option Out} {l0 : Option AV} {j t : Nat} {L2 : List (Nat × AV)} {St : List AV} {S : SS} : ev c 294 27 [l0] L2 (aR (12, j, t) :: St) S = ev c 294 30 [l0] L2 (S.2.2.1 (12, j, t) 0 :: St) S := ev_go i294_27 rfl
theorem i294_30 : insAt 294 30 = some (.bipush 8, 2, (0, 0, 0, 0), 0) := rfl
theorem s294_30 {c : Nat → List AV → SS → Option Out} {l0 : Option AV} {L2 : List (Nat × AV)} {St : List AV} {S : SS} : ev c 294 30 [l0] L2 St S = ev c 294 32 [l0] L2 (aI 8 :: St) S := ev_go i294_30 rfl
theorem i294_32 : insAt 294 32 = some (.iaload, 1, (0, 0, 0, 0), 0) := rfl
theorem s294_32 {c : Nat → List AV → SS → Option Out} {l0 : Option AV} {i : Int32} {o : OId} {L2 : List (Nat × AV)} {St : List AV} {S : SS} : ev c 294 32 [l0] L2 (aI i :: aR o :: St) S = kI o i (ev c 294 33 [l0] L2 (aI (agI S o i.toNatClampNeg) :: St) S) := ev_iaload i294_32
theorem i294_33 : insAt 294 33 = some (.ireturn, 1, (0, 0, 0, 0), 0) := rfl
theorem s294_33 {c : Nat → List AV → SS → Option Out} {l0 : Option AV} {x : Int32} {L2 : List (Nat × AV)} {S : SS} : ev c 294 33 [l0] L2 [aI x] S = some (.inl (some (aI x)), S) := ev_end i294_33 rfl
theorem m294 {d : Nat} {o : OId} {S : SS} : evm (d + 1) 294 [aR o] S = ev (evm d) 294 0 [some (aR o)] [] [] S := evm_s (n := 1) rfl (Nat.le_of_ble_eq_true rfl) rfl rfl
/-! FrequencyOfficeModel.movedStation(I)I -/
theorem i295_0 : insAt 295 0 = some (.aload_n 0, 1, (0, 0, 0, 0), 0) := rfl
theorem s295_0 {c : Nat → List AV → SS → Option Out} {l1 : Option AV} {o : OId} {L2 : List (Nat × AV)} {St : List AV} {S : SS} : ev c 295 0 [some (aR o), l1] L2 St S = ev c 295 1 [some (aR o), l1] L2 (aR o :: St) S := ev_go i295_0 rfl
theorem i295_1 : insAt 295 1 = some (.iload_n 1, 1, (0, 0, 0, 0), 0) := rfl
theorem s295_1 {c : Nat → List AV → SS → Option Out} {l0 : Option AV} {x : Int32} {L2 : List (Nat × AV)} {St : List AV} {S : SS} : ev c 295 1 [l0, some (aI x)] L2 St S = ev c 295 2 [l0, some (aI x)] L2 (aI x :: St) S := ev_go i295_1 rfl
theorem i295_2 : insAt 295 2 = some (.iconst 0, 1, (0, 0, 0, 0), 0) := rfl
theorem s295_2 {c : Nat → List AV → SS → Option Out} {l0 l1 : Option AV} {L2 : List (Nat × AV)} {St : List AV} {S : SS} : ev c 295 2 [l0, l1] L2 St S = ev c 295 3 [l0, l1] L2 (aI 0 :: St) S := ev_go i295_2 rfl
theorem i295_3 : insAt 295 3 = some (.invokevirtual 208, 3, (296, 2, 2, 12), 425) := rfl
theorem s295_3 {c : Nat → List AV → SS → Option Out} {l0 l1 : Option AV} {a0 : Int32} {a1 : Int32} {j t : Nat} {L2 : List (Nat × AV)} {S : SS} : ev c 295 3 [l0, l1] L2 [aI a1, aI a0, aR (12, j, t)] S = ck (c 296 [aR (12, j, t), aI a0, aI a1] S) (fun v S' => ev c 295 6 [l0, l1] L2 (v.toList ++ []) S') := ev_call i295_3 rfl
theorem i295_6 : insAt 295 6 = some (.ireturn, 1, (0, 0, 0, 0), 0) := rfl
theorem s295_6 {c : Nat → List AV → SS → Option Out} {l0 l1 : Option AV} {x : Int32} {L2 : List (Nat × AV)} {S : SS} : ev c 295 6 [l0, l1] L2 [aI x] S = some (.inl (some (aI x)), S) := ev_end i295_6 rfl
theorem m295 {d : Nat} {o : OId} {a0 : Int32} {S : SS} : evm (d + 1) 295 [aR o, aI a0] S = ev (evm d) 295 0 [some (aR o), some (aI a0)] [] [] S := evm_s (n := 2) rfl (Nat.le_of_ble_eq_true rfl) rfl rfl
/-! FrequencyOfficeModel.ofMove(II)I -/
theorem i296_0 : insAt 296 0 = some (.aload_n 0, 1, (0, 0, 0, 0), 0) := rfl
theorem s296_0 {c : Nat → List AV → SS → Option Out} {l1 l2 : Option AV} {o : OId} {L2 : List (Nat × AV)} {St : List AV} {S : SS} : ev c 296 0 [some (aR o), l1, l2] L2 St S = ev c 296 1 [some (aR o), l1, l2] L2 (aR o :: St) S := ev_go i296_0 rfl
theorem i296_1 : insAt 296 1 = some (.iload_n 1, 1, (0, 0, 0, 0), 0) := rfl
theorem s296_1 {c : Nat → List AV → SS → Option Out} {l0 l2 : Option AV} {x : Int32} {L2 : List (Nat × AV)} {St : List AV} {S : SS} : ev c 296 1 [l0, some (aI x), l2] L2 St S = ev c 296 2 [l0, some (aI x), l2] L2 (aI x :: St) S := ev_go i296_1 rfl
theorem i296_2 : insAt 296 2 = some (.iconst 0, 1, (0, 0, 0, 0), 0) := rfl
theorem s296_2 {c : Nat → List AV → SS → Option Out} {l0 l1 l2 : Option AV} {L2 : List (Nat × AV)} {St : List AV} {S : SS} : ev c 296 2 [l0, l1, l2] L2 St S = ev c 296 3 [l0, l1, l2] L2 (aI 0 :: St) S := ev_go i296_2 rfl
theorem i296_3 : insAt 296 3 = some (.aload_n 0, 1, (0, 0, 0, 0), 0) := rfl
theorem s296_3 {c : Nat → List AV → SS → Option Out} {l1 l2 : Option AV} {o : OId} {L2 : List (Nat × AV)} {St : List AV} {S : SS} : ev c 296 3 [some (aR o), l1, l2] L2 St S = ev c 296 4 [some (aR o), l1, l2] L2 (aR o :: St) S := ev_go i296_3 rfl
theorem i296_4 : insAt 296 4 = some (.getfield 7, 3, (12, 0, 0, 0), 364) := rfl
theorem s296_4 {c : Nat → List AV → SS → Option Out} {l0 l1 l2 : Option AV} {j t : Nat} {L2 : List (Nat × AV)} {St : List AV} {S : SS} : ev c 296 4 [l0, l1, l2] L2 (aR (12, j, t) :: St) S = ev c 296 7 [l0, l1, l2] L2 (S.2.2.1 (12, j, t) 0 :: St) S := ev_go i296_4 rfl
theorem i296_7 : insAt 296 7 = some (.bipush 8, 2, (0, 0, 0, 0), 0) := rfl
theorem s296_7 {c : Nat → List AV → SS → Option Out} {l0 l1 l2 : Option AV} {L2 : List (Nat × AV)} {St : List AV} {S : SS} : ev c 296 7 [l0, l1, l2] L2 St S = ev c 296 9 [l0, l1, l2] L2 (aI 8 :: St) S := ev_go i296_7 rfl
theorem i296_9 : insAt 296 9 = some (.iaload, 1, (0, 0, 0, 0), 0) := rfl
theorem s296_9 {c : Nat → List AV → SS → Option Out} {l0 l1 l2 : Option AV} {i : Int32} {o : OId} {L2 : List (Nat × AV)} {St : List AV} {S : SS} : ev c 296 9 [l0, l1, l2] L2 (aI i :: aR o :: St) S = kI o i (ev c 296 10 [l0, l1, l2] L2 (aI (agI S o i.toNatClampNeg) :: St) S) := ev_iaload i296_9
theorem i296_10 : insAt 296 10 = some (.iconst 1, 1, (0, 0, 0, 0), 0) := rfl
theorem s296_10 {c : Nat → List AV → SS → Option Out} {l0 l1 l2 : Option AV} {L2 : List (Nat × AV)} {St : List AV} {S : SS} : ev c 296 10 [l0, l1, l2] L2 St S = ev c 296 11 [l0, l1, l2] L2 (aI 1 :: St) S := ev_go i296_10 rfl
theorem i296_11 : insAt 296 11 = some (.isub, 1, (0, 0, 0, 0), 0) := rfl
theorem s296_11 {c : Nat → List AV → SS → Option Out} {l0 l1 l2 : Option AV} {x y : Int32} {L2 : List (Nat × AV)} {St : List AV} {S : SS} : ev c 296 11 [l0, l1, l2] L2 (aI y :: aI x :: St) S = ev c 296 12 [l0, l1, l2] L2 (aI (x - y) :: St) S := ev_go i296_11 rfl
theorem i296_12 : insAt 296 12 = some (.invokestatic 154, 3, (225, 3, 0, 0), 388) := rfl
theorem s296_12 {c : Nat → List AV → SS → Option Out} {l0 l1 l2 : Option AV} {t0 : AV} {a0 : Int32} {a1 : Int32} {a2 : Int32} {L2 : List (Nat × AV)} {S : SS} : ev c 296 12 [l0, l1, l2] L2 [aI a2, aI a1, aI a0, t0] S = ck (c 225 [aI a0, aI a1, aI a2] S) (fun v S' => ev c 296 15 [l0, l1, l2] L2 (v.toList ++ [t0]) S') := ev_call i296_12 rfl
theorem i296_15 : insAt 296 15 = some (.invokevirtual 176, 3, (256, 1, 2, 12), 415) := rfl
theorem s296_15 {c : Nat → List AV → SS → Option Out} {l0 l1 l2 : Option AV} {a0 : Int32} {j t : Nat} {L2 : List (Nat × AV)} {S : SS} : ev c 296 15 [l0, l1, l2] L2 [aI a0, aR (12, j, t)] S = ck (c 256 [aR (12, j, t), aI a0] S) (fun v S' => ev c 296 18 [l0, l1, l2] L2 (v.toList ++ []) S') := ev_call i296_15 rfl
theorem i296_18 : insAt 296 18 = some (.ifCond .le 7, 3, (0, 0, 0, 0), 0) := rfl
theorem s296_18 {c : Nat → List AV → SS → Option Out} {l0 l1 l2 : Option AV} {x : Int32} {L2 : List (Nat × AV)} {St : List AV} {S : SS} : ev c 296 18 [l0, l1, l2] L2 (aI x :: St) S = if x ≤ 0 then ev c 296 25 [l0, l1, l2] L2 St S else ev c 296 21 [l0, l1, l2] L2 St S := ev_br i296_18 rfl
theorem i296_21 : insAt 296 21 = some (.iconst 0, 1, (0, 0, 0, 0), 0) := rfl
theorem s296_21 {c : Nat → List AV → SS → Option Out} {l0 l1 l2 : Option AV} {L2 : List (Nat × AV)} {St : List AV} {S : SS} : ev c 296 21 [l0, l1, l2] L2 St S = ev c 296 22 [l0, l1, l2] L2 (aI 0 :: St) S := ev_go i296_21 rfl
theorem i296_22 : insAt 296 22 = some (.goto 16, 3, (0, 0, 0, 0), 0) := rfl
theorem s296_22 {c : Nat → List AV → SS → Option Out} {l0 l1 l2 : Option AV} {L2 : List (Nat × AV)} {St : List AV} {S : SS} : ev c 296 22 [l0, l1, l2] L2 St S = ev c 296 38 [l0, l1, l2] L2 St S := ev_go i296_22 rfl
theorem i296_25 : insAt 296 25 = some (.aload_n 0, 1, (0, 0, 0, 0), 0) := rfl
theorem s296_25 {c : Nat → List AV → SS → Option Out} {l1 l2 : Option AV} {o : OId} {L2 : List (Nat × AV)} {St : List AV} {S : SS} : ev c 296 25 [some (aR o), l1, l2] L2 St S = ev c 296 26 [some (aR o), l1, l2] L2 (aR o :: St) S := ev_go i296_25 rfl
theorem i296_26 : insAt 296 26 = some (.getfield 7, 3, (12, 0, 0, 0), 364) := rfl
theorem s296_26 {c : Nat → List AV → SS → Option Out} {l0 l1 l2 : Option AV} {j t : Nat} {L2 : List (Nat × AV)} {St : List AV} {S : SS} : ev c 296 26 [l0, l1, l2] L2 (aR (12, j, t) :: St) S = ev c 296 29 [l0, l1, l2] L2 (S.2.2.1 (12, j, t) 0 :: St) S := ev_go i296_26 rfl
theorem i296_29 : insAt 296 29 = some (.bipush 9, 2, (0, 0, 0, 0), 0) := rfl
theorem s296_29 {c : Nat → List AV → SS → Option Out} {l0 l1 l2 : Option AV} {L2 : List (Nat × AV)} {St : List AV} {S : SS} : ev c 296 29 [l0, l1, l2] L2 St S = ev c 296 31 [l0, l1, l2] L2 (aI 9 :: St) S := ev_go i296_29 rfl
theorem i296_31 : insAt 296 31 = some (.iconst 3, 1, (0, 0, 0, 0), 0) := rfl
theorem s296_31 {c : Nat → List AV → SS → Option Out} {l0 l1 l2 : Option AV} {L2 : List (Nat × AV)} {St : List AV} {S : SS} : ev c 296 31 [l0, l1, l2] L2 St S = ev c 296 32 [l0, l1, l2] L2 (aI 3 :: St) S := ev_go i296_31 rfl
theorem i296_32 : insAt 296 32 = some (.iload_n 1, 1, (0, 0, 0, 0), 0) := rfl
theorem s296_32 {c : Nat → List AV → SS → Option Out} {l0 l2 : Option AV} {x : Int32} {L2 : List (Nat × AV)} {St : List AV} {S : SS} : ev c 296 32 [l0, some (aI x), l2] L2 St S = ev c 296 33 [l0, some (aI x), l2] L2 (aI x :: St) S := ev_go i296_32 rfl
theorem i296_33 : insAt 296 33 = some (.imul, 1, (0, 0, 0, 0), 0) := rfl
theorem s296_33 {c : Nat → List AV → SS → Option Out} {l0 l1 l2 : Option AV} {x y : Int32} {L2 : List (Nat × AV)} {St : List AV} {S : SS} : ev c 296 33 [l0, l1, l2] L2 (aI y :: aI x :: St) S = ev c 296 34 [l0, l1, l2] L2 (aI (x * y) :: St) S := ev_go i296_33 rfl
theorem i296_34 : insAt 296 34 = some (.iadd, 1, (0, 0, 0, 0), 0) := rfl
theorem s296_34 {c : Nat → List AV → SS → Option Out} {l0 l1 l2 : Option AV} {x y : Int32} {L2 : List (Nat × AV)} {St : List AV} {S : SS} : ev c 296 34 [l0, l1, l2] L2 (aI y :: aI x :: St) S = ev c 296 35 [l0, l1, l2] L2 (aI (x + y) :: St) S := ev_go i296_34 rfl
theorem i296_35 : insAt 296 35 = some (.iload_n 2, 1, (0, 0, 0, 0), 0) := rfl
theorem s296_35 {c : Nat → List AV → SS → Option Out} {l0 l1 : Option AV} {x : Int32} {L2 : List (Nat × AV)} {St : List AV} {S : SS} : ev c 296 35 [l0, l1, some (aI x)] L2 St S = ev c 296 36 [l0, l1, some (aI x)] L2 (aI x :: St) S := ev_go i296_35 rfl
theorem i296_36 : insAt 296 36 = some (.iadd, 1, (0, 0, 0, 0), 0) := rfl
theorem s296_36 {c : Nat → List AV → SS → Option Out} {l0 l1 l2 : Option AV} {x y : Int32} {L2 : List (Nat × AV)} {St : List AV} {S : SS} : ev c 296 36 [l0, l1, l2] L2 (aI y :: aI x :: St) S = ev c 296 37 [l0, l1, l2] L2 (aI (x + y) :: St) S := ev_go i296_36 rfl
theorem i296_37 : insAt 296 37 = some (.iaload, 1, (0, 0, 0, 0), 0) := rfl
theorem s296_37 {c : Nat → List AV → SS → Option Out} {l0 l1 l2 : Option AV} {i : Int32} {o : OId} {L2 : List (Nat × AV)} {St : List AV} {S : SS} : ev c 296 37 [l0, l1, l2] L2 (aI i :: aR o :: St) S = kI o i (ev c 296 38 [l0, l1, l2] L2 (aI (agI S o i.toNatClampNeg) :: St) S) := ev_iaload i296_37
theorem i296_38 : insAt 296 38 = some (.ireturn, 1, (0, 0, 0, 0), 0) := rfl
theorem s296_38 {c : Nat → List AV → SS → Option Out} {l0 l1 l2 : Option AV} {x : Int32} {L2 : List (Nat × AV)} {S : SS} : ev c 296 38 [l0, l1, l2] L2 [aI x] S = some (.inl (some (aI x)), S) := ev_end i296_38 rfl
theorem m296 {d : Nat} {o : OId} {a0 : Int32} {a1 : Int32} {S : SS} : evm (d + 1) 296 [aR o, aI a0, aI a1] S = ev (evm d) 296 0 [some (aR o), some (aI a0), some (aI a1)] [] [] S := evm_s (n := 3) rfl (Nat.le_of_ble_eq_true rfl) rfl rfl
/-! FrequencyOfficeModel.movedFrom(I)I -/
theorem i297_0 : insAt 297 0 = some (.aload_n 0, 1, (0, 0, 0, 0), 0) := rfl
theorem s297_0 {c : Nat → List AV → SS → Option Out} {l1 : Option AV} {o : OId} {L2 : List (Nat × AV)} {St : List AV} {S : SS} : ev c 297 0 [some (aR o), l1] L2 St S = ev c 297 1 [some (aR o), l1] L2 (aR o :: St) S := ev_go i297_0 rfl
theorem i297_1 : insAt 297 1 = some (.iload_n 1, 1, (0, 0, 0, 0), 0) := rfl
theorem s297_1 {c : Nat → List AV → SS → Option Out} {l0 : Option AV} {x : Int32} {L2 : List (Nat × AV)} {St : List AV} {S : SS} : ev c 297 1 [l0, some (aI x)] L2 St S = ev c 297 2 [l0, some (aI x)] L2 (aI x :: St) S := ev_go i297_1 rfl
theorem i297_2 : insAt 297 2 = some (.iconst 1, 1, (0, 0, 0, 0), 0) := rfl
theorem s297_2 {c : Nat → List AV → SS → Option Out} {l0 l1 : Option AV} {L2 : List (Nat × AV)} {St : List AV} {S : SS} : ev c 297 2 [l0, l1] L2 St S = ev c 297 3 [l0, l1] L2 (aI 1 :: St) S := ev_go i297_2 rfl
theorem i297_3 : insAt 297 3 = some (.invokevirtual 208, 3, (296, 2, 2, 12), 425) := rfl
theorem s297_3 {c : Nat → List AV → SS → Option Out} {l0 l1 : Option AV} {a0 : Int32} {a1 : Int32} {j t : Nat} {L2 : List (Nat × AV)} {S : SS} : ev c 297 3 [l0, l1] L2 [aI a1, aI a0, aR (12, j, t)] S = ck (c 296 [aR (12, j, t), aI a0, aI a1] S) (fun v S' => ev c 297 6 [l0, l1] L2 (v.toList ++ []) S') := ev_call i297_3 rfl
theorem i297_6 : insAt 297 6 = some (.ireturn, 1, (0, 0, 0, 0), 0) := rfl
theorem s297_6 {c : Nat → List AV → SS → Option Out} {l0 l1 : Option AV} {x : Int32} {L2 : List (Nat × AV)} {S : SS} : ev c 297 6 [l0, l1] L2 [aI x] S = some (.inl (some (aI x)), S) := ev_end i297_6 rfl
theorem m297 {d : Nat} {o : OId} {a0 : Int32} {S : SS} : evm (d + 1) 297 [aR o, aI a0] S = ev (evm d) 297 0 [some (aR o), some (aI a0)] [] [] S := evm_s (n := 2) rfl (Nat.le_of_ble_eq_true rfl) rfl rfl
/-! FrequencyOfficeModel.movedTo(I)I -/
theorem i298_0 : insAt 298 0 = some (.aload_n 0, 1, (0, 0, 0, 0), 0) := rfl
theorem s298_0 {c : Nat → List AV → SS → Option Out} {l1 : Option AV} {o : OId} {L2 : List (Nat × AV)} {St : List AV} {S : SS} : ev c 298 0 [some (aR o), l1] L2 St S = ev c 298 1 [some (aR o), l1] L2 (aR o :: St) S := ev_go i298_0 rfl
theorem i298_1 : insAt 298 1 = some (.iload_n 1, 1, (0, 0, 0, 0), 0) := rfl
theorem s298_1 {c : Nat → List AV → SS → Option Out} {l0 : Option AV} {x : Int32} {L2 : List (Nat × AV)} {St : List AV} {S : SS} : ev c 298 1 [l0, some (aI x)] L2 St S = ev c 298 2 [l0, some (aI x)] L2 (aI x :: St) S := ev_go i298_1 rfl
theorem i298_2 : insAt 298 2 = some (.iconst 2, 1, (0, 0, 0, 0), 0) := rfl
theorem s298_2 {c : Nat → List AV → SS → Option Out} {l0 l1 : Option AV} {L2 : List (Nat × AV)} {St : List AV} {S : SS} : ev c 298 2 [l0, l1] L2 St S = ev c 298 3 [l0, l1] L2 (aI 2 :: St) S := ev_go i298_2 rfl
theorem i298_3 : insAt 298 3 = some (.invokevirtual 208, 3, (296, 2, 2, 12), 425) := rfl
theorem s298_3 {c : Nat → List AV → SS → Option Out} {l0 l1 : Option AV} {a0 : Int32} {a1 : Int32} {j t : Nat} {L2 : List (Nat × AV)} {S : SS} : ev c 298 3 [l0, l1] L2 [aI a1, aI a0, aR (12, j, t)] S = ck (c 296 [aR (12, j, t), aI a0, aI a1] S) (fun v S' => ev c 298 6 [l0, l1] L2 (v.toList ++ []) S') := ev_call i298_3 rfl
theorem i298_6 : insAt 298 6 = some (.ireturn, 1, (0, 0, 0, 0), 0) := rfl
theorem s298_6 {c : Nat → List AV → SS → Option Out} {l0 l1 : Option AV} {x : Int32} {L2 : List (Nat × AV)} {S : SS} : ev c 298 6 [l0, l1] L2 [aI x] S = some (.inl (some (aI x)), S) := ev_end i298_6 rfl
theorem m298 {d : Nat} {o : OId} {a0 : Int32} {S : SS} : evm (d + 1) 298 [aR o, aI a0] S = ev (evm d) 298 0 [some (aR o), some (aI a0)] [] [] S := evm_s (n := 2) rfl (Nat.le_of_ble_eq_true rfl) rfl rfl
/-! FrequencyOfficeModel.leastSpan()I -/
theorem i299_0 : insAt 299 0 = some (.aload_n 0, 1, (0, 0, 0, 0), 0) := rfl
theorem s299_0 {c : Nat → List AV → SS → Option Out} {l1 : Option AV} {o : OId} {L2 : List (Nat × AV)} {St : List AV} {S : SS} : ev c 299 0 [some (aR o), l1] L2 St S = ev c 299 1 [some (aR o), l1] L2 (aR o :: St) S := ev_go i299_0 rfl
theorem i299_1 : insAt 299 1 = some (.iconst 0, 1, (0, 0, 0, 0), 0) := rfl
theorem s299_1 {c : Nat → List AV → SS → Option Out} {l0 l1 : Option AV} {L2 : List (Nat × AV)} {St : List AV} {S : SS} : ev c 299 1 [l0, l1] L2 St S = ev c 299 2 [l0, l1] L2 (aI 0 :: St) S := ev_go i299_1 rfl
theorem i299_2 : insAt 299 2 = some (.putfield 31, 3, (12, 7, 0, 0), 371) := rfl
theorem s299_2 {c : Nat → List AV → SS → Option Out} {l0 l1 : Option AV} {j t : Nat} {x : Int32} {L2 : List (Nat × AV)} {St : List AV} {S : SS} : ev c 299 2 [l0, l1] L2 (aI x :: aR (12, j, t) :: St) S = ev c 299 5 [l0, l1] L2 St (setI S.1 (12, j, t) 7 x, S.2) := ev_go i299_2 rfl
theorem i299_5 : insAt 299 5 = some (.iconst 0, 1, (0, 0, 0, 0), 0) := rfl
theorem s299_5 {c : Nat → List AV → SS → Option Out} {l0 l1 : Option AV} {L2 : List (Nat × AV)} {St : List AV} {S : SS} : ev c 299 5 [l0, l1] L2 St S = ev c 299 6 [l0, l1] L2 (aI 0 :: St) S := ev_go i299_5 rfl
theorem i299_6 : insAt 299 6 = some (.istore_n 1, 1, (0, 0, 0, 0), 0) := rfl
theorem s299_6 {c : Nat → List AV → SS → Option Out} {l0 l1 : Option AV} {x : Int32} {L2 : List (Nat × AV)} {St : List AV} {S : SS} : ev c 299 6 [l0, l1] L2 (aI x :: St) S = ev c 299 7 [l0, some (aI x)] (kil L2 1) St S := ev_go i299_6 rfl
theorem i299_7 : insAt 299 7 = some (.aload_n 0, 1, (0, 0, 0, 0), 0) := rfl
theorem s299_7 {c : Nat → List AV → SS → Option Out} {l1 : Option AV} {o : OId} {L2 : List (Nat × AV)} {St : List AV} {S : SS} : ev c 299 7 [some (aR o), l1] L2 St S = ev c 299 8 [some (aR o), l1] L2 (aR o :: St) S := ev_go i299_7 rfl
theorem i299_8 : insAt 299 8 = some (.iconst 0, 1, (0, 0, 0, 0), 0) := rfl
theorem s299_8 {c : Nat → List AV → SS → Option Out} {l0 l1 : Option AV} {L2 : List (Nat × AV)} {St : List AV} {S : SS} : ev c 299 8 [l0, l1] L2 St S = ev c 299 9 [l0, l1] L2 (aI 0 :: St) S := ev_go i299_8 rfl
theorem i299_9 : insAt 299 9 = some (.iload_n 1, 1, (0, 0, 0, 0), 0) := rfl
theorem s299_9 {c : Nat → List AV → SS → Option Out} {l0 : Option AV} {x : Int32} {L2 : List (Nat × AV)} {St : List AV} {S : SS} : ev c 299 9 [l0, some (aI x)] L2 St S = ev c 299 10 [l0, some (aI x)] L2 (aI x :: St) S := ev_go i299_9 rfl
theorem i299_10 : insAt 299 10 = some (.invokevirtual 211, 3, (300, 2, 2, 12), 426) := rfl
theorem s299_10 {c : Nat → List AV → SS → Option Out} {l0 l1 : Option AV} {a0 : Int32} {a1 : Int32} {j t : Nat} {L2 : List (Nat × AV)} {S : SS} : ev c 299 10 [l0, l1] L2 [aI a1, aI a0, aR (12, j, t)] S = ck (c 300 [aR (12, j, t), aI a0, aI a1] S) (fun v S' => ev c 299 13 [l0, l1] L2 (v.toList ++ []) S') := ev_call i299_10 rfl
theorem i299_13 : insAt 299 13 = some (.ifCond .ne 9, 3, (0, 0, 0, 0), 0) := rfl
theorem s299_13 {c : Nat → List AV → SS → Option Out} {l0 l1 : Option AV} {x : Int32} {L2 : List (Nat × AV)} {St : List AV} {S : SS} : ev c 299 13 [l0, l1] L2 (aI x :: St) S = if x = 0 then ev c 299 16 [l0, l1] L2 St S else ev c 299 22 [l0, l1] L2 St S := (ev_br i299_13 rfl).trans (ite_not _ _ _)
theorem i299_16 : insAt 299 16 = some (.iinc 1 1, 3, (0, 0, 0, 0), 0) := rfl
theorem s299_16 {c : Nat → List AV → SS → Option Out} {l0 : Option AV} {x : Int32} {L2 : List (Nat × AV)} {St : List AV} {S : SS} : ev c 299 16 [l0, some (aI x)] L2 St S = ev c 299 19 [l0, some (aI (x + 1))] (kil L2 1) St S := ev_go i299_16 rfl
theorem i299_19 : insAt 299 19 = some (.goto (-12), 3, (0, 0, 0, 0), 0) := rfl
theorem s299_19 {c : Nat → List AV → SS → Option Out} {l0 l1 : Option AV} {L2 : List (Nat × AV)} {St : List AV} {S : SS} : ev c 299 19 [l0, l1] L2 St S = ev c 299 7 [l0, l1] L2 St S := ev_go i299_19 rfl
theorem i299_22 : insAt 299 22 = some (.iload_n 1, 1, (0, 0, 0, 0), 0) := rfl
theorem s299_22 {c : Nat → List AV → SS → Option Out} {l0 : Option AV} {x : Int32} {L2 : List (Nat × AV)} {St : List AV} {S : SS} : ev c 299 22 [l0, some (aI x)] L2 St S = ev c 299 23 [l0, some (aI x)] L2 (aI x :: St) S := ev_go i299_22 rfl
theorem i299_23 : insAt 299 23 = some (.ireturn, 1, (0, 0, 0, 0), 0) := rfl
theorem s299_23 {c : Nat → List AV → SS → Option Out} {l0 l1 : Option AV} {x : Int32} {L2 : List (Nat × AV)} {S : SS} : ev c 299 23 [l0, l1] L2 [aI x] S = some (.inl (some (aI x)), S) := ev_end i299_23 rfl
theorem m299 {d : Nat} {o : OId} {S : SS} : evm (d + 1) 299 [aR o] S = ev (evm d) 299 0 [some (aR o), none] [] [] S := evm_s (n := 2) rfl (Nat.le_of_ble_eq_true rfl) rfl rfl
/-! FrequencyOfficeModel.assigns(II)Z -/
theorem i300_0 : insAt 300 0 = some (.iload_n 1, 1, (0, 0, 0, 0), 0) := rfl
theorem s300_0 {c : Nat → List AV → SS → Option Out} {l0 l2 l3 l4 l5 : Option AV} {x : Int32} {L2 : List (Nat × AV)} {St : List AV} {S : SS} : ev c 300 0 [l0, some (aI x), l2, l3, l4, l5] L2 St S = ev c 300 1 [l0, some (aI x), l2, l3, l4, l5] L2 (aI x :: St) S := ev_go i300_0 rfl
theorem i300_1 : insAt 300 1 = some (.aload_n 0, 1, (0, 0, 0, 0), 0) := rfl
theorem s300_1 {c : Nat → List AV → SS → Option Out} {l1 l2 l3 l4 l5 : Option AV} {o : OId} {L2 : List (Nat × AV)} {St : List AV} {S : SS} : ev c 300 1 [some (aR o), l1, l2, l3, l4, l5] L2 St S = ev c 300 2 [some (aR o), l1, l2, l3, l4, l5] L2 (aR o :: St) S := ev_go i300_1 rfl
theorem i300_2 : insAt 300 2 = some (.getfield 7, 3, (12, 0, 0, 0), 364) := rfl
theorem s300_2 {c : Nat → List AV → SS → Option Out} {l0 l1 l2 l3 l4 l5 : Option AV} {j t : Nat} {L2 : List (Nat × AV)} {St : List AV} {S : SS} : ev c 300 2 [l0, l1, l2, l3, l4, l5] L2 (aR (12, j, t) :: St) S = ev c 300 5 [l0, l1, l2, l3, l4, l5] L2 (S.2.2.1 (12, j, t) 0 :: St) S := ev_go i300_2 rfl
theorem i300_5 : insAt 300 5 = some (.bipush 7, 2, (0, 0, 0, 0), 0) := rfl
theorem s300_5 {c : Nat → List AV → SS → Option Out} {l0 l1 l2 l3 l4 l5 : Option AV} {L2 : List (Nat × AV)} {St : List AV} {S : SS} : ev c 300 5 [l0, l1, l2, l3, l4, l5] L2 St S = ev c 300 7 [l0, l1, l2, l3, l4, l5] L2 (aI 7 :: St) S := ev_go i300_5 rfl
theorem i300_7 : insAt 300 7 = some (.iaload, 1, (0, 0, 0, 0), 0) := rfl
theorem s300_7 {c : Nat → List AV → SS → Option Out} {l0 l1 l2 l3 l4 l5 : Option AV} {i : Int32} {o : OId} {L2 : List (Nat × AV)} {St : List AV} {S : SS} : ev c 300 7 [l0, l1, l2, l3, l4, l5] L2 (aI i :: aR o :: St) S = kI o i (ev c 300 8 [l0, l1, l2, l3, l4, l5] L2 (aI (agI S o i.toNatClampNeg) :: St) S) := ev_iaload i300_7
theorem i300_8 : insAt 300 8 = some (.if_icmp .ne 5, 3, (0, 0, 0, 0), 0) := rfl
theorem s300_8 {c : Nat → List AV → SS → Option Out} {l0 l1 l2 l3 l4 l5 : Option AV} {x y : Int32} {L2 : List (Nat × AV)} {St : List AV} {S : SS} : ev c 300 8 [l0, l1, l2, l3, l4, l5] L2 (aI y :: aI x :: St) S = if x = y then ev c 300 11 [l0, l1, l2, l3, l4, l5] L2 St S else ev c 300 13 [l0, l1, l2, l3, l4, l5] L2 St S := (ev_br i300_8 rfl).trans (ite_not _ _ _)
theorem i300_11 : insAt 300 11 = some (.iconst 1, 1, (0, 0, 0, 0), 0) := rfl
theorem s300_11 {c : Nat → List AV → SS → Option Out} {l0 l1 l2 l3 l4 l5 : Option AV} {L2 : List (Nat × AV)} {St : List AV} {S : SS} : ev c 300 11 [l0, l1, l2, l3, l4, l5] L2 St S = ev c 300 12 [l0, l1, l2, l3, l4, l5] L2 (aI 1 :: St) S := ev_go i300_11 rfl
theorem i300_12 : insAt 300 12 = some (.ireturn, 1, (0, 0, 0, 0), 0) := rfl
theorem s300_12 {c : Nat → List AV → SS → Option Out} {l0 l1 l2 l3 l4 l5 : Option AV} {x : Int32} {L2 : List (Nat × AV)} {S : SS} : ev c 300 12 [l0, l1, l2, l3, l4, l5] L2 [aI x] S = if x = 0 ∨ x = 1 then some (.inl (some (aI x)), S) else none := ev_rt i300_12 rfl
theorem i300_13 : insAt 300 13 = some (.aload_n 0, 1, (0, 0, 0, 0), 0) := rfl
theorem s300_13 {c : Nat → List AV → SS → Option Out} {l1 l2 l3 l4 l5 : Option AV} {o : OId} {L2 : List (Nat × AV)} {St : List AV} {S : SS} : ev c 300 13 [some (aR o), l1, l2, l3, l4, l5] L2 St S = ev c 300 14 [some (aR o), l1, l2, l3, l4, l5] L2 (aR o :: St) S := ev_go i300_13 rfl
theorem i300_14 : insAt 300 14 = some (.iload_n 1, 1, (0, 0, 0, 0), 0) := rfl
theorem s300_14 {c : Nat → List AV → SS → Option Out} {l0 l2 l3 l4 l5 : Option AV} {x : Int32} {L2 : List (Nat × AV)} {St : List AV} {S : SS} : ev c 300 14 [l0, some (aI x), l2, l3, l4, l5] L2 St S = ev c 300 15 [l0, some (aI x), l2, l3, l4, l5] L2 (aI x :: St) S := ev_go i300_14 rfl
theorem i300_15 : insAt 300 15 = some (.invokevirtual 115, 3, (230, 1, 2, 12), 400) := rfl
theorem s300_15 {c : Nat → List AV → SS → Option Out} {l0 l1 l2 l3 l4 l5 : Option AV} {a0 : Int32} {j t : Nat} {L2 : List (Nat × AV)} {S : SS} : ev c 300 15 [l0, l1, l2, l3, l4, l5] L2 [aI a0, aR (12, j, t)] S = ck (c 230 [aR (12, j, t), aI a0] S) (fun v S' => ev c 300 18 [l0, l1, l2, l3, l4, l5] L2 (v.toList ++ []) S') := ev_call i300_15 rfl
theorem i300_18 : insAt 300 18 = some (.ifCond .ne 12, 3, (0, 0, 0, 0), 0) := rfl
theorem s300_18 {c : Nat → List AV → SS → Option Out} {l0 l1 l2 l3 l4 l5 : Option AV} {x : Int32} {L2 : List (Nat × AV)} {St : List AV} {S : SS} : ev c 300 18 [l0, l1, l2, l3, l4, l5] L2 (aI x :: St) S = if x = 0 then ev c 300 21 [l0, l1, l2, l3, l4, l5] L2 St S else ev c 300 30 [l0, l1, l2, l3, l4, l5] L2 St S := (ev_br i300_18 rfl).trans (ite_not _ _ _)
theorem i300_21 : insAt 300 21 = some (.aload_n 0, 1, (0, 0, 0, 0), 0) := rfl
theorem s300_21 {c : Nat → List AV → SS → Option Out} {l1 l2 l3 l4 l5 : Option AV} {o : OId} {L2 : List (Nat × AV)} {St : List AV} {S : SS} : ev c 300 21 [some (aR o), l1, l2, l3, l4, l5] L2 St S = ev c 300 22 [some (aR o), l1, l2, l3, l4, l5] L2 (aR o :: St) S := ev_go i300_21 rfl
theorem i300_22 : insAt 300 22 = some (.iload_n 1, 1, (0, 0, 0, 0), 0) := rfl
theorem s300_22 {c : Nat → List AV → SS → Option Out} {l0 l2 l3 l4 l5 : Option AV} {x : Int32} {L2 : List (Nat × AV)} {St : List AV} {S : SS} : ev c 300 22 [l0, some (aI x), l2, l3, l4, l5] L2 St S = ev c 300 23 [l0, some (aI x), l2, l3, l4, l5] L2 (aI x :: St) S := ev_go i300_22 rfl
theorem i300_23 : insAt 300 23 = some (.iconst 1, 1, (0, 0, 0, 0), 0) := rfl
theorem s300_23 {c : Nat → List AV → SS → Option Out} {l0 l1 l2 l3 l4 l5 : Option AV} {L2 : List (Nat × AV)} {St : List AV} {S : SS} : ev c 300 23 [l0, l1, l2, l3, l4, l5] L2 St S = ev c 300 24 [l0, l1, l2, l3, l4, l5] L2 (aI 1 :: St) S := ev_go i300_23 rfl
theorem i300_24 : insAt 300 24 = some (.iadd, 1, (0, 0, 0, 0), 0) := rfl
theorem s300_24 {c : Nat → List AV → SS → Option Out} {l0 l1 l2 l3 l4 l5 : Option AV} {x y : Int32} {L2 : List (Nat × AV)} {St : List AV} {S : SS} : ev c 300 24 [l0, l1, l2, l3, l4, l5] L2 (aI y :: aI x :: St) S = ev c 300 25 [l0, l1, l2, l3, l4, l5] L2 (aI (x + y) :: St) S := ev_go i300_24 rfl
theorem i300_25 : insAt 300 25 = some (.iload_n 2, 1, (0, 0, 0, 0), 0) := rfl
theorem s300_25 {c : Nat → List AV → SS → Option Out} {l0 l1 l3 l4 l5 : Option AV} {x : Int32} {L2 : List (Nat × AV)} {St : List AV} {S : SS} : ev c 300 25 [l0, l1, some (aI x), l3, l4, l5] L2 St S = ev c 300 26 [l0, l1, some (aI x), l3, l4, l5] L2 (aI x :: St) S := ev_go i300_25 rfl
theorem i300_26 : insAt 300 26 = some (.invokevirtual 211, 3, (300, 2, 2, 12), 426) := rfl
theorem s300_26 {c : Nat → List AV → SS → Option Out} {l0 l1 l2 l3 l4 l5 : Option AV} {a0 : Int32} {a1 : Int32} {j t : Nat} {L2 : List (Nat × AV)} {S : SS} : ev c 300 26 [l0, l1, l2, l3, l4, l5] L2 [aI a1, aI a0, aR (12, j, t)] S = ck (c 300 [aR (12, j, t), aI a0, aI a1] S) (fun v S' => ev c 300 29 [l0, l1, l2, l3, l4, l5] L2 (v.toList ++ []) S') := ev_call i300_26 rfl
theorem i300_29 : insAt 300 29 = some (.ireturn, 1, (0, 0, 0, 0), 0) := rfl
theorem s300_29 {c : Nat → List AV → SS → Option Out} {l0 l1 l2 l3 l4 l5 : Option AV} {x : Int32} {L2 : List (Nat × AV)} {S : SS} : ev c 300 29 [l0, l1, l2, l3, l4, l5] L2 [aI x] S = if x = 0 ∨ x = 1 then some (.inl (some (aI x)), S) else none := ev_rt i300_29 rfl
theorem i300_30 : insAt 300 30 = some (.iconst 0, 1, (0, 0, 0, 0), 0) := rfl
theorem s300_30 {c : Nat → List AV → SS → Option Out} {l0 l1 l2 l3 l4 l5 : Option AV} {L2 : List (Nat × AV)} {St : List AV} {S : SS} : ev c 300 30 [l0, l1, l2, l3, l4, l5] L2 St S = ev c 300 31 [l0, l1, l2, l3, l4, l5] L2 (aI 0 :: St) S := ev_go i300_30 rfl
theorem i300_31 : insAt 300 31 = some (.istore_n 3, 1, (0, 0, 0, 0), 0) := rfl
theorem s300_31 {c : Nat → List AV → SS → Option Out} {l0 l1 l2 l3 l4 l5 : Option AV} {x : Int32} {L2 : List (Nat × AV)} {St : List AV} {S : SS} : ev c 300 31 [l0, l1, l2, l3, l4, l5] L2 (aI x :: St) S = ev c 300 32 [l0, l1, l2, some (aI x), l4, l5] (kil L2 3) St S := ev_go i300_31 rfl
theorem i300_32 : insAt 300 32 = some (.iload_n 3, 1, (0, 0, 0, 0), 0) := rfl
theorem s300_32 {c : Nat → List AV → SS → Option Out} {l0 l1 l2 l4 l5 : Option AV} {x : Int32} {L2 : List (Nat × AV)} {St : List AV} {S : SS} : ev c 300 32 [l0, l1, l2, some (aI x), l4, l5] L2 St S = ev c 300 33 [l0, l1, l2, some (aI x), l4, l5] L2 (aI x :: St) S := ev_go i300_32 rfl
theorem i300_33 : insAt 300 33 = some (.iload_n 2, 1, (0, 0, 0, 0), 0) := rfl
theorem s300_33 {c : Nat → List AV → SS → Option Out} {l0 l1 l3 l4 l5 : Option AV} {x : Int32} {L2 : List (Nat × AV)} {St : List AV} {S : SS} : ev c 300 33 [l0, l1, some (aI x), l3, l4, l5] L2 St S = ev c 300 34 [l0, l1, some (aI x), l3, l4, l5] L2 (aI x :: St) S := ev_go i300_33 rfl
theorem i300_34 : insAt 300 34 = some (.if_icmp .ge 95, 3, (0, 0, 0, 0), 0) := rfl
theorem s300_34 {c : Nat → List AV → SS → Option Out} {l0 l1 l2 l3 l4 l5 : Option AV} {x y : Int32} {L2 : List (Nat × AV)} {St : List AV} {S : SS} : ev c 300 34 [l0, l1, l2, l3, l4, l5] L2 (aI y :: aI x :: St) S = if y ≤ x then ev c 300 129 [l0, l1, l2, l3, l4, l5] L2 St S else ev c 300 37 [l0, l1, l2, l3, l4, l5] L2 St S := ev_br i300_34 rfl
theorem i300_37 : insAt 300 37 = some (.iconst 1, 1, (0, 0, 0, 0), 0) := rfl
theorem s300_37 {c : Nat → List AV → SS → Option Out} {l0 l1 l2 l3 l4 l5 : Option AV} {L2 : List (Nat × AV)} {St : List AV} {S : SS} : ev c 300 37 [l0, l1, l2, l3, l4, l5] L2 St S = ev c 300 38 [l0, l1, l2, l3, l4, l5] L2 (aI 1 :: St) S := ev_go i300_37 rfl
theorem i300_38 : insAt 300 38 = some (.istore 4, 2, (0, 0, 0, 0), 0) := rfl
theorem s300_38 {c : Nat → List AV → SS → Option Out} {l0 l1 l2 l3 l4 l5 : Option AV} {x : Int32} {L2 : List (Nat × AV)} {St : List AV} {S : SS} : ev c 300 38 [l0, l1, l2, l3, l4, l5] L2 (aI x :: St) S = ev c 300 40 [l0, l1, l2, l3, some (aI x), l5] (kil L2 4) St S := ev_go i300_38 rfl
theorem i300_40 : insAt 300 40 = some (.iconst 0, 1, (0, 0, 0, 0), 0) := rfl
theorem s300_40 {c : Nat → List AV → SS → Option Out} {l0 l1 l2 l3 l4 l5 : Option AV} {L2 : List (Nat × AV)} {St : List AV} {S : SS} : ev c 300 40 [l0, l1, l2, l3, l4, l5] L2 St S = ev c 300 41 [l0, l1, l2, l3, l4, l5] L2 (aI 0 :: St) S := ev_go i300_40 rfl
theorem i300_41 : insAt 300 41 = some (.istore 5, 2, (0, 0, 0, 0), 0) := rfl
theorem s300_41 {c : Nat → List AV → SS → Option Out} {l0 l1 l2 l3 l4 l5 : Option AV} {x : Int32} {L2 : List (Nat × AV)} {St : List AV} {S : SS} : ev c 300 41 [l0, l1, l2, l3, l4, l5] L2 (aI x :: St) S = ev c 300 43 [l0, l1, l2, l3, l4, some (aI x)] (kil L2 5) St S := ev_go i300_41 rfl
theorem i300_43 : insAt 300 43 = some (.iload 5, 2, (0, 0, 0, 0), 0) := rfl
theorem s300_43 {c : Nat → List AV → SS → Option Out} {l0 l1 l2 l3 l4 : Option AV} {x : Int32} {L2 : List (Nat × AV)} {St : List AV} {S : SS} : ev c 300 43 [l0, l1, l2, l3, l4, some (aI x)] L2 St S = ev c 300 45 [l0, l1, l2, l3, l4, some (aI x)] L2 (aI x :: St) S := ev_go i300_43 rfl
theorem i300_45 : insAt 300 45 = some (.iload_n 1, 1, (0, 0, 0, 0), 0) := rfl
theorem s300_45 {c : Nat → List AV → SS → Option Out} {l0 l2 l3 l4 l5 : Option AV} {x : Int32} {L2 : List (Nat × AV)} {St : List AV} {S : SS} : ev c 300 45 [l0, some (aI x), l2, l3, l4, l5] L2 St S = ev c 300 46 [l0, some (aI x), l2, l3, l4, l5] L2 (aI x :: St) S := ev_go i300_45 rfl
theorem i300_46 : insAt 300 46 = some (.if_icmp .ge 52, 3, (0, 0, 0, 0), 0) := rfl
theorem s300_46 {c : Nat → List AV → SS → Option Out} {l0 l1 l2 l3 l4 l5 : Option AV} {x y : Int32} {L2 : List (Nat × AV)} {St : List AV} {S : SS} : ev c 300 46 [l0, l1, l2, l3, l4, l5] L2 (aI y :: aI x :: St) S = if y ≤ x then ev c 300 98 [l0, l1, l2, l3, l4, l5] L2 St S else ev c 300 49 [l0, l1, l2, l3, l4, l5] L2 St S := ev_br i300_46 rfl
theorem i300_49 : insAt 300 49 = some (.iload 4, 2, (0, 0, 0, 0), 0) := rfl
theorem s300_49 {c : Nat → List AV → SS → Option Out} {l0 l1 l2 l3 l5 : Option AV} {x : Int32} {L2 : List (Nat × AV)} {St : List AV} {S : SS} : ev c 300 49 [l0, l1, l2, l3, some (aI x), l5] L2 St S = ev c 300 51 [l0, l1, l2, l3, some (aI x), l5] L2 (aI x :: St) S := ev_go i300_49 rfl
theorem i300_51 : insAt 300 51 = some (.ifCond .eq 38, 3, (0, 0, 0, 0), 0) := rfl
theorem s300_51 {c : Nat → List AV → SS → Option Out} {l0 l1 l2 l3 l4 l5 : Option AV} {x : Int32} {L2 : List (Nat × AV)} {St : List AV} {S : SS} : ev c 300 51 [l0, l1, l2, l3, l4, l5] L2 (aI x :: St) S = if x = 0 then ev c 300 89 [l0, l1, l2, l3, l4, l5] L2 St S else ev c 300 54 [l0, l1, l2, l3, l4, l5] L2 St S := ev_br i300_51 rfl
theorem i300_54 : insAt 300 54 = some (.aload_n 0, 1, (0, 0, 0, 0), 0) := rfl
theorem s300_54 {c : Nat → List AV → SS → Option Out} {l1 l2 l3 l4 l5 : Option AV} {o : OId} {L2 : List (Nat × AV)} {St : List AV} {S : SS} : ev c 300 54 [some (aR o), l1, l2, l3, l4, l5] L2 St S = ev c 300 55 [some (aR o), l1, l2, l3, l4, l5] L2 (aR o :: St) S := ev_go i300_54 rfl
theorem i300_55 : insAt 300 55 = some (.iload 5, 2, (0, 0, 0, 0), 0) := rfl
theorem s300_55 {c : Nat → List AV → SS → Option Out} {l0 l1 l2 l3 l4 : Option AV} {x : Int32} {L2 : List (Nat × AV)} {St : List AV} {S : SS} : ev c 300 55 [l0, l1, l2, l3, l4, some (aI x)] L2 St S = ev c 300 57 [l0, l1, l2, l3, l4, some (aI x)] L2 (aI x :: St) S := ev_go i300_55 rfl
theorem i300_57 : insAt 300 57 = some (.invokevirtual 115, 3, (230, 1, 2, 12), 400) := rfl
theorem s300_57 {c : Nat → List AV → SS → Option Out} {l0 l1 l2 l3 l4 l5 : Option AV} {a0 : Int32} {j t : Nat} {L2 : List (Nat × AV)} {S : SS} : ev c 300 57 [l0, l1, l2, l3, l4, l5] L2 [aI a0, aR (12, j, t)] S = ck (c 230 [aR (12, j, t), aI a0] S) (fun v S' => ev c 300 60 [l0, l1, l2, l3, l4, l5] L2 (v.toList ++ []) S') := ev_call i300_57 rfl
theorem i300_60 : insAt 300 60 = some (.ifCond .eq 25, 3, (0, 0, 0, 0), 0) := rfl
theorem s300_60 {c : Nat → List AV → SS → Option Out} {l0 l1 l2 l3 l4 l5 : Option AV} {x : Int32} {L2 : List (Nat × AV)} {St : List AV} {S : SS} : ev c 300 60 [l0, l1, l2, l3, l4, l5] L2 (aI x :: St) S = if x = 0 then ev c 300 85 [l0, l1, l2, l3, l4, l5] L2 St S else ev c 300 63 [l0, l1, l2, l3, l4, l5] L2 St S := ev_br i300_60 rfl
theorem i300_63 : insAt 300 63 = some (.aload_n 0, 1, (0, 0, 0, 0), 0) := rfl
theorem s300_63 {c : Nat → List AV → SS → Option Out} {l1 l2 l3 l4 l5 : Option AV} {o : OId} {L2 : List (Nat × AV)} {St : List AV} {S : SS} : ev c 300 63 [some (aR o), l1, l2, l3, l4, l5] L2 St S = ev c 300 64 [some (aR o), l1, l2, l3, l4, l5] L2 (aR o :: St) S := ev_go i300_63 rfl
theorem i300_64 : insAt 300 64 = some (.getfield 28, 3, (12, 6, 0, 0), 370) := rfl
theorem s300_64 {c : Nat → List AV → SS → Option Out} {l0 l1 l2 l3 l4 l5 : Option AV} {j t : Nat} {L2 : List (Nat × AV)} {St : List AV} {S : SS} : ev c 300 64 [l0, l1, l2, l3, l4, l5] L2 (aR (12, j, t) :: St) S = ev c 300 67 [l0, l1, l2, l3, l4, l5] L2 (S.2.2.1 (12, j, t) 6 :: St) S := ev_go i300_64 rfl
theorem i300_67 : insAt 300 67 = some (.iload 5, 2, (0, 0, 0, 0), 0) := rfl
theorem s300_67 {c : Nat → List AV → SS → Option Out} {l0 l1 l2 l3 l4 : Option AV} {x : Int32} {L2 : List (Nat × AV)} {St : List AV} {S : SS} : ev c 300 67 [l0, l1, l2, l3, l4, some (aI x)] L2 St S = ev c 300 69 [l0, l1, l2, l3, l4, some (aI x)] L2 (aI x :: St) S := ev_go i300_67 rfl
theorem i300_69 : insAt 300 69 = some (.iaload, 1, (0, 0, 0, 0), 0) := rfl
theorem s300_69 {c : Nat → List AV → SS → Option Out} {l0 l1 l2 l3 l4 l5 : Option AV} {i : Int32} {o : OId} {L2 : List (Nat × AV)} {St : List AV} {S : SS} : ev c 300 69 [l0, l1, l2, l3, l4, l5] L2 (aI i :: aR o :: St) S = kI o i (ev c 300 70 [l0, l1, l2, l3, l4, l5] L2 (aI (agI S o i.toNatClampNeg) :: St) S) := ev_iaload i300_69
theorem i300_70 : insAt 300 70 = some (.iload_n 3, 1, (0, 0, 0, 0), 0) := rfl
theorem s300_70 {c : Nat → List AV → SS → Option Out} {l0 l1 l2 l4 l5 : Option AV} {x : Int32} {L2 : List (Nat × AV)} {St : List AV} {S : SS} : ev c 300 70 [l0, l1, l2, some (aI x), l4, l5] L2 St S = ev c 300 71 [l0, l1, l2, some (aI x), l4, l5] L2 (aI x :: St) S := ev_go i300_70 rfl
theorem i300_71 : insAt 300 71 = some (.isub, 1, (0, 0, 0, 0), 0) := rfl
theorem s300_71 {c : Nat → List AV → SS → Option Out} {l0 l1 l2 l3 l4 l5 : Option AV} {x y : Int32} {L2 : List (Nat × AV)} {St : List AV} {S : SS} : ev c 300 71 [l0, l1, l2, l3, l4, l5] L2 (aI y :: aI x :: St) S = ev c 300 72 [l0, l1, l2, l3, l4, l5] L2 (aI (x - y) :: St) S := ev_go i300_71 rfl
theorem i300_72 : insAt 300 72 = some (.invokestatic 109, 3, (232, 1, 0, 0), 401) := rfl
theorem s300_72 {c : Nat → List AV → SS → Option Out} {l0 l1 l2 l3 l4 l5 : Option AV} {a0 : Int32} {L2 : List (Nat × AV)} {S : SS} : ev c 300 72 [l0, l1, l2, l3, l4, l5] L2 [aI a0] S = ck (c 232 [aI a0] S) (fun v S' => ev c 300 75 [l0, l1, l2, l3, l4, l5] L2 (v.toList ++ []) S') := ev_call i300_72 rfl
theorem i300_75 : insAt 300 75 = some (.aload_n 0, 1, (0, 0, 0, 0), 0) := rfl
theorem s300_75 {c : Nat → List AV → SS → Option Out} {l1 l2 l3 l4 l5 : Option AV} {o : OId} {L2 : List (Nat × AV)} {St : List AV} {S : SS} : ev c 300 75 [some (aR o), l1, l2, l3, l4, l5] L2 St S = ev c 300 76 [some (aR o), l1, l2, l3, l4, l5] L2 (aR o :: St) S := ev_go i300_75 rfl
theorem i300_76 : insAt 300 76 = some (.iload_n 1, 1, (0, 0, 0, 0), 0) := rfl
theorem s300_76 {c : Nat → List AV → SS → Option Out} {l0 l2 l3 l4 l5 : Option AV} {x : Int32} {L2 : List (Nat × AV)} {St : List AV} {S : SS} : ev c 300 76 [l0, some (aI x), l2, l3, l4, l5] L2 St S = ev c 300 77 [l0, some (aI x), l2, l3, l4, l5] L2 (aI x :: St) S := ev_go i300_76 rfl
theorem i300_77 : insAt 300 77 = some (.iload 5, 2, (0, 0, 0, 0), 0) := rfl
theorem s300_77 {c : Nat → List AV → SS → Option Out} {l0 l1 l2 l3 l4 : Option AV} {x : Int32} {L2 : List (Nat × AV)} {St : List AV} {S : SS} : ev c 300 77 [l0, l1, l2, l3, l4, some (aI x)] L2 St S = ev c 300 79 [l0, l1, l2, l3, l4, some (aI x)] L2 (aI x :: St) S := ev_go i300_77 rfl
theorem i300_79 : insAt 300 79 = some (.invokevirtual 112, 3, (240, 2, 2, 12), 407) := rfl
theorem s300_79 {c : Nat → List AV → SS → Option Out} {l0 l1 l2 l3 l4 l5 : Option AV} {t0 : AV} {a0 : Int32} {a1 : Int32} {j t : Nat} {L2 : List (Nat × AV)} {S : SS} : ev c 300 79 [l0, l1, l2, l3, l4, l5] L2 [aI a1, aI a0, aR (12, j, t), t0] S = ck (c 240 [aR (12, j, t), aI a0, aI a1] S) (fun v S' => ev c 300 82 [l0, l1, l2, l3, l4, l5] L2 (v.toList ++ [t0]) S') := ev_call i300_79 rfl
theorem i300_82 : insAt 300 82 = some (.if_icmp .lt 7, 3, (0, 0, 0, 0), 0) := rfl
theorem s300_82 {c : Nat → List AV → SS → Option Out} {l0 l1 l2 l3 l4 l5 : Option AV} {x y : Int32} {L2 : List (Nat × AV)} {St : List AV} {S : SS} : ev c 300 82 [l0, l1, l2, l3, l4, l5] L2 (aI y :: aI x :: St) S = if x < y then ev c 300 89 [l0, l1, l2, l3, l4, l5] L2 St S else ev c 300 85 [l0, l1, l2, l3, l4, l5] L2 St S := ev_br i300_82 rfl
theorem i300_85 : insAt 300 85 = some (.iconst 1, 1, (0, 0, 0, 0), 0) := rfl
theorem s300_85 {c : Nat → List AV → SS → Option Out} {l0 l1 l2 l3 l4 l5 : Option AV} {L2 : List (Nat × AV)} {St : List AV} {S : SS} : ev c 300 85 [l0, l1, l2, l3, l4, l5] L2 St S = ev c 300 86 [l0, l1, l2, l3, l4, l5] L2 (aI 1 :: St) S := ev_go i300_85 rfl
theorem i300_86 : insAt 300 86 = some (.goto 4, 3, (0, 0, 0, 0), 0) := rfl
theorem s300_86 {c : Nat → List AV → SS → Option Out} {l0 l1 l2 l3 l4 l5 : Option AV} {L2 : List (Nat × AV)} {St : List AV} {S : SS} : ev c 300 86 [l0, l1, l2, l3, l4, l5] L2 St S = ev c 300 90 [l0, l1, l2, l3, l4, l5] L2 St S := ev_go i300_86 rfl
theorem i300_89 : insAt 300 89 = some (.iconst 0, 1, (0, 0, 0, 0), 0) := rfl
theorem s300_89 {c : Nat → List AV → SS → Option Out} {l0 l1 l2 l3 l4 l5 : Option AV} {L2 : List (Nat × AV)} {St : List AV} {S : SS} : ev c 300 89 [l0, l1, l2, l3, l4, l5] L2 St S = ev c 300 90 [l0, l1, l2, l3, l4, l5] L2 (aI 0 :: St) S := ev_go i300_89 rfl
theorem i300_90 : insAt 300 90 = some (.istore 4, 2, (0, 0, 0, 0), 0) := rfl
theorem s300_90 {c : Nat → List AV → SS → Option Out} {l0 l1 l2 l3 l4 l5 : Option AV} {x : Int32} {L2 : List (Nat × AV)} {St : List AV} {S : SS} : ev c 300 90 [l0, l1, l2, l3, l4, l5] L2 (aI x :: St) S = ev c 300 92 [l0, l1, l2, l3, some (aI x), l5] (kil L2 4) St S := ev_go i300_90 rfl
theorem i300_92 : insAt 300 92 = some (.iinc 5 1, 3, (0, 0, 0, 0), 0) := rfl
theorem s300_92 {c : Nat → List AV → SS → Option Out} {l0 l1 l2 l3 l4 : Option AV} {x : Int32} {L2 : List (Nat × AV)} {St : List AV} {S : SS} : ev c 300 92 [l0, l1, l2, l3, l4, some (aI x)] L2 St S = ev c 300 95 [l0, l1, l2, l3, l4, some (aI (x + 1))] (kil L2 5) St S := ev_go i300_92 rfl
theorem i300_95 : insAt 300 95 = some (.goto (-52), 3, (0, 0, 0, 0), 0) := rfl
theorem s300_95 {c : Nat → List AV → SS → Option Out} {l0 l1 l2 l3 l4 l5 : Option AV} {L2 : List (Nat × AV)} {St : List AV} {S : SS} : ev c 300 95 [l0, l1, l2, l3, l4, l5] L2 St S = ev c 300 43 [l0, l1, l2, l3, l4, l5] L2 St S := ev_go i300_95 rfl
theorem i300_98 : insAt 300 98 = some (.aload_n 0, 1, (0, 0, 0, 0), 0) := rfl
theorem s300_98 {c : Nat → List AV → SS → Option Out} {l1 l2 l3 l4 l5 : Option AV} {o : OId} {L2 : List (Nat × AV)} {St : List AV} {S : SS} : ev c 300 98 [some (aR o), l1, l2, l3, l4, l5] L2 St S = ev c 300 99 [some (aR o), l1, l2, l3, l4, l5] L2 (aR o :: St) S := ev_go i300_98 rfl
theorem i300_99 : insAt 300 99 = some (.getfield 28, 3, (12, 6, 0, 0), 370) := rfl
theorem s300_99 {c : Nat → List AV → SS → Option Out} {l0 l1 l2 l3 l4 l5 : Option AV} {j t : Nat} {L2 : List (Nat × AV)} {St : List AV} {S : SS} : ev c 300 99 [l0, l1, l2, l3, l4, l5] L2 (aR (12, j, t) :: St) S = ev c 300 102 [l0, l1, l2, l3, l4, l5] L2 (S.2.2.1 (12, j, t) 6 :: St) S := ev_go i300_99 rfl
theorem i300_102 : insAt 300 102 = some (.iload_n 1, 1, (0, 0, 0, 0), 0) := rfl
theorem s300_102 {c : Nat → List AV → SS → Option Out} {l0 l2 l3 l4 l5 : Option AV} {x : Int32} {L2 : List (Nat × AV)} {St : List AV} {S : SS} : ev c 300 102 [l0, some (aI x), l2, l3, l4, l5] L2 St S = ev c 300 103 [l0, some (aI x), l2, l3, l4, l5] L2 (aI x :: St) S := ev_go i300_102 rfl
theorem i300_103 : insAt 300 103 = some (.iload_n 3, 1, (0, 0, 0, 0), 0) := rfl
theorem s300_103 {c : Nat → List AV → SS → Option Out} {l0 l1 l2 l4 l5 : Option AV} {x : Int32} {L2 : List (Nat × AV)} {St : List AV} {S : SS} : ev c 300 103 [l0, l1, l2, some (aI x), l4, l5] L2 St S = ev c 300 104 [l0, l1, l2, some (aI x), l4, l5] L2 (aI x :: St) S := ev_go i300_103 rfl
theorem i300_104 : insAt 300 104 = some (.iastore, 1, (0, 0, 0, 0), 0) := rfl
theorem s300_104 {c : Nat → List AV → SS → Option Out} {l0 l1 l2 l3 l4 l5 : Option AV} {x i : Int32} {o : OId} {L2 : List (Nat × AV)} {St : List AV} {S : SS} : ev c 300 104 [l0, l1, l2, l3, l4, l5] L2 (aI x :: aI i :: aR o :: St) S = kIw o i (ev c 300 105 [l0, l1, l2, l3, l4, l5] L2 St (setI S.1 o i.toNatClampNeg x, S.2)) := ev_iastore i300_104
theorem i300_105 : insAt 300 105 = some (.iload 4, 2, (0, 0, 0, 0), 0) := rfl
theorem s300_105 {c : Nat → List AV → SS → Option Out} {l0 l1 l2 l3 l5 : Option AV} {x : Int32} {L2 : List (Nat × AV)} {St : List AV} {S : SS} : ev c 300 105 [l0, l1, l2, l3, some (aI x), l5] L2 St S = ev c 300 107 [l0, l1, l2, l3, some (aI x), l5] L2 (aI x :: St) S := ev_go i300_105 rfl
theorem i300_107 : insAt 300 107 = some (.ifCond .eq 16, 3, (0, 0, 0, 0), 0) := rfl
theorem s300_107 {c : Nat → List AV → SS → Option Out} {l0 l1 l2 l3 l4 l5 : Option AV} {x : Int32} {L2 : List (Nat × AV)} {St : List AV} {S : SS} : ev c 300 107 [l0, l1, l2, l3, l4, l5] L2 (aI x :: St) S = if x = 0 then ev c 300 123 [l0, l1, l2, l3, l4, l5] L2 St S else ev c 300 110 [l0, l1, l2, l3, l4, l5] L2 St S := ev_br i300_107 rfl
theorem i300_110 : insAt 300 110 = some (.aload_n 0, 1, (0, 0, 0, 0), 0) := rfl
theorem s300_110 {c : Nat → List AV → SS → Option Out} {l1 l2 l3 l4 l5 : Option AV} {o : OId} {L2 : List (Nat × AV)} {St : List AV} {S : SS} : ev c 300 110 [some (aR o), l1, l2, l3, l4, l5] L2 St S = ev c 300 111 [some (aR o), l1, l2, l3, l4, l5] L2 (aR o :: St) S := ev_go i300_110 rfl
theorem i300_111 : insAt 300 111 = some (.iload_n 1, 1, (0, 0, 0, 0), 0) := rfl
theorem s300_111 {c : Nat → List AV → SS → Option Out} {l0 l2 l3 l4 l5 : Option AV} {x : Int32} {L2 : List (Nat × AV)} {St : List AV} {S : SS} : ev c 300 111 [l0, some (aI x), l2, l3, l4, l5] L2 St S = ev c 300 112 [l0, some (aI x), l2, l3, l4, l5] L2 (aI x :: St) S := ev_go i300_111 rfl
theorem i300_112 : insAt 300 112 = some (.iconst 1, 1, (0, 0, 0, 0), 0) := rfl
theorem s300_112 {c : Nat → List AV → SS → Option Out} {l0 l1 l2 l3 l4 l5 : Option AV} {L2 : List (Nat × AV)} {St : List AV} {S : SS} : ev c 300 112 [l0, l1, l2, l3, l4, l5] L2 St S = ev c 300 113 [l0, l1, l2, l3, l4, l5] L2 (aI 1 :: St) S := ev_go i300_112 rfl
theorem i300_113 : insAt 300 113 = some (.iadd, 1, (0, 0, 0, 0), 0) := rfl
theorem s300_113 {c : Nat → List AV → SS → Option Out} {l0 l1 l2 l3 l4 l5 : Option AV} {x y : Int32} {L2 : List (Nat × AV)} {St : List AV} {S : SS} : ev c 300 113 [l0, l1, l2, l3, l4, l5] L2 (aI y :: aI x :: St) S = ev c 300 114 [l0, l1, l2, l3, l4, l5] L2 (aI (x + y) :: St) S := ev_go i300_113 rfl
theorem i300_114 : insAt 300 114 = some (.iload_n 2, 1, (0, 0, 0, 0), 0) := rfl
theorem s300_114 {c : Nat → List AV → SS → Option Out} {l0 l1 l3 l4 l5 : Option AV} {x : Int32} {L2 : List (Nat × AV)} {St : List AV} {S : SS} : ev c 300 114 [l0, l1, some (aI x), l3, l4, l5] L2 St S = ev c 300 115 [l0, l1, some (aI x), l3, l4, l5] L2 (aI x :: St) S := ev_go i300_114 rfl
theorem i300_115 : insAt 300 115 = some (.invokevirtual 211, 3, (300, 2, 2, 12), 426) := rfl
theorem s300_115 {c : Nat → List AV → SS → Option Out} {l0 l1 l2 l3 l4 l5 : Option AV} {a0 : Int32} {a1 : Int32} {j t : Nat} {L2 : List (Nat × AV)} {S : SS} : ev c 300 115 [l0, l1, l2, l3, l4, l5] L2 [aI a1, aI a0, aR (12, j, t)] S = ck (c 300 [aR (12, j, t), aI a0, aI a1] S) (fun v S' => ev c 300 118 [l0, l1, l2, l3, l4, l5] L2 (v.toList ++ []) S') := ev_call i300_115 rfl
theorem i300_118 : insAt 300 118 = some (.ifCond .eq 5, 3, (0, 0, 0, 0), 0) := rfl
theorem s300_118 {c : Nat → List AV → SS → Option Out} {l0 l1 l2 l3 l4 l5 : Option AV} {x : Int32} {L2 : List (Nat × AV)} {St : List AV} {S : SS} : ev c 300 118 [l0, l1, l2, l3, l4, l5] L2 (aI x :: St) S = if x = 0 then ev c 300 123 [l0, l1, l2, l3, l4, l5] L2 St S else ev c 300 121 [l0, l1, l2, l3, l4, l5] L2 St S := ev_br i300_118 rfl
theorem i300_121 : insAt 300 121 = some (.iconst 1, 1, (0, 0, 0, 0), 0) := rfl
theorem s300_121 {c : Nat → List AV → SS → Option Out} {l0 l1 l2 l3 l4 l5 : Option AV} {L2 : List (Nat × AV)} {St : List AV} {S : SS} : ev c 300 121 [l0, l1, l2, l3, l4, l5] L2 St S = ev c 300 122 [l0, l1, l2, l3, l4, l5] L2 (aI 1 :: St) S := ev_go i300_121 rfl
theorem i300_122 : insAt 300 122 = some (.ireturn, 1, (0, 0, 0, 0), 0) := rfl
theorem s300_122 {c : Nat → List AV → SS → Option Out} {l0 l1 l2 l3 l4 l5 : Option AV} {x : Int32} {L2 : List (Nat × AV)} {S : SS} : ev c 300 122 [l0, l1, l2, l3, l4, l5] L2 [aI x] S = if x = 0 ∨ x = 1 then some (.inl (some (aI x)), S) else none := ev_rt i300_122 rfl
theorem i300_123 : insAt 300 123 = some (.iinc 3 1, 3, (0, 0, 0, 0), 0) := rfl
theorem s300_123 {c : Nat → List AV → SS → Option Out} {l0 l1 l2 l4 l5 : Option AV} {x : Int32} {L2 : List (Nat × AV)} {St : List AV} {S : SS} : ev c 300 123 [l0, l1, l2, some (aI x), l4, l5] L2 St S = ev c 300 126 [l0, l1, l2, some (aI (x + 1)), l4, l5] (kil L2 3) St S := ev_go i300_123 rfl
theorem i300_126 : insAt 300 126 = some (.goto (-94), 3, (0, 0, 0, 0), 0) := rfl
theorem s300_126 {c : Nat → List AV → SS → Option Out} {l0 l1 l2 l3 l4 l5 : Option AV} {L2 : List (Nat × AV)} {St : List AV} {S : SS} : ev c 300 126 [l0, l1, l2, l3, l4, l5] L2 St S = ev c 300 32 [l0, l1, l2, l3, l4, l5] L2 St S := ev_go i300_126 rfl
theorem i300_129 : insAt 300 129 = some (.iconst 0, 1, (0, 0, 0, 0), 0) := rfl
theorem s300_129 {c : Nat → List AV → SS → Option Out} {l0 l1 l2 l3 l4 l5 : Option AV} {L2 : List (Nat × AV)} {St : List AV} {S : SS} : ev c 300 129 [l0, l1, l2, l3, l4, l5] L2 St S = ev c 300 130 [l0, l1, l2, l3, l4, l5] L2 (aI 0 :: St) S := ev_go i300_129 rfl
theorem i300_130 : insAt 300 130 = some (.ireturn, 1, (0, 0, 0, 0), 0) := rfl
theorem s300_130 {c : Nat → List AV → SS → Option Out} {l0 l1 l2 l3 l4 l5 : Option AV} {x : Int32} {L2 : List (Nat × AV)} {S : SS} : ev c 300 130 [l0, l1, l2, l3, l4, l5] L2 [aI x] S = if x = 0 ∨ x = 1 then some (.inl (some (aI x)), S) else none := ev_rt i300_130 rfl
theorem m300 {d : Nat} {o : OId} {a0 : Int32} {a1 : Int32} {S : SS} : evm (d + 1) 300 [aR o, aI a0, aI a1] S = ev (evm d) 300 0 [some (aR o), some (aI a0), some (aI a1), none, none, none] [] [] S := evm_s (n := 6) rfl (Nat.le_of_ble_eq_true rfl) rfl rfl
/-! FrequencyOfficeModel.leastSpanByOrders()I -/
theorem i301_0 : insAt 301 0 = some (.aload_n 0, 1, (0, 0, 0, 0), 0) := rfl
theorem s301_0 {c : Nat → List AV → SS → Option Out} {o : OId} {L2 : List (Nat × AV)} {St : List AV} {S : SS} : ev c 301 0 [some (aR o)] L2 St S = ev c 301 1 [some (aR o)] L2 (aR o :: St) S := ev_go i301_0 rfl
theorem i301_1 : insAt 301 1 = some (.invokevirtual 214, 3, (299, 0, 2, 12), 427) := rfl
theorem s301_1 {c : Nat → List AV → SS → Option Out} {l0 : Option AV} {j t : Nat} {L2 : List (Nat × AV)} {S : SS} : ev c 301 1 [l0] L2 [aR (12, j, t)] S = ck (c 299 [aR (12, j, t)] S) (fun v S' => ev c 301 4 [l0] L2 (v.toList ++ []) S') := ev_call i301_1 rfl
theorem i301_4 : insAt 301 4 = some (.ireturn, 1, (0, 0, 0, 0), 0) := rfl
theorem s301_4 {c : Nat → List AV → SS → Option Out} {l0 : Option AV} {x : Int32} {L2 : List (Nat × AV)} {S : SS} : ev c 301 4 [l0] L2 [aI x] S = some (.inl (some (aI x)), S) := ev_end i301_4 rfl
theorem m301 {d : Nat} {o : OId} {S : SS} : evm (d + 1) 301 [aR o] S = ev (evm d) 301 0 [some (aR o)] [] [] S := evm_s (n := 1) rfl (Nat.le_of_ble_eq_true rfl) rfl rfl
/-! FrequencyOfficeModel.usedSpan()I -/
theorem i302_0 : insAt 302 0 = some (.aload_n 0, 1, (0, 0, 0, 0), 0) := rfl
theorem s302_0 {c : Nat → List AV → SS → Option Out} {l1 l2 l3 : Option AV} {o : OId} {L2 : List (Nat × AV)} {St : List AV} {S : SS} : ev c 302 0 [some (aR o), l1, l2, l3] L2 St S = ev c 302 1 [some (aR o), l1, l2, l3] L2 (aR o :: St) S := ev_go i302_0 rfl
theorem i302_1 : insAt 302 1 = some (.iconst 0, 1, (0, 0, 0, 0), 0) := rfl
theorem s302_1 {c : Nat → List AV → SS → Option Out} {l0 l1 l2 l3 : Option AV} {L2 : List (Nat × AV)} {St : List AV} {S : SS} : ev c 302 1 [l0, l1, l2, l3] L2 St S = ev c 302 2 [l0, l1, l2, l3] L2 (aI 0 :: St) S := ev_go i302_1 rfl
theorem i302_2 : insAt 302 2 = some (.putfield 31, 3, (12, 7, 0, 0), 371) := rfl
theorem s302_2 {c : Nat → List AV → SS → Option Out} {l0 l1 l2 l3 : Option AV} {j t : Nat} {x : Int32} {L2 : List (Nat × AV)} {St : List AV} {S : SS} : ev c 302 2 [l0, l1, l2, l3] L2 (aI x :: aR (12, j, t) :: St) S = ev c 302 5 [l0, l1, l2, l3] L2 St (setI S.1 (12, j, t) 7 x, S.2) := ev_go i302_2 rfl
theorem i302_5 : insAt 302 5 = some (.bipush 8, 2, (0, 0, 0, 0), 0) := rfl
theorem s302_5 {c : Nat → List AV → SS → Option Out} {l0 l1 l2 l3 : Option AV} {L2 : List (Nat × AV)} {St : List AV} {S : SS} : ev c 302 5 [l0, l1, l2, l3] L2 St S = ev c 302 7 [l0, l1, l2, l3] L2 (aI 8 :: St) S := ev_go i302_5 rfl
theorem i302_7 : insAt 302 7 = some (.istore_n 1, 1, (0, 0, 0, 0), 0) := rfl
theorem s302_7 {c : Nat → List AV → SS → Option Out} {l0 l1 l2 l3 : Option AV} {x : Int32} {L2 : List (Nat × AV)} {St : List AV} {S : SS} : ev c 302 7 [l0, l1, l2, l3] L2 (aI x :: St) S = ev c 302 8 [l0, some (aI x), l2, l3] (kil L2 1) St S := ev_go i302_7 rfl
theorem i302_8 : insAt 302 8 = some (.iconst (-1), 1, (0, 0, 0, 0), 0) := rfl
theorem s302_8 {c : Nat → List AV → SS → Option Out} {l0 l1 l2 l3 : Option AV} {L2 : List (Nat × AV)} {St : List AV} {S : SS} : ev c 302 8 [l0, l1, l2, l3] L2 St S = ev c 302 9 [l0, l1, l2, l3] L2 (aI (-1) :: St) S := ev_go i302_8 rfl
theorem i302_9 : insAt 302 9 = some (.istore_n 2, 1, (0, 0, 0, 0), 0) := rfl
theorem s302_9 {c : Nat → List AV → SS → Option Out} {l0 l1 l2 l3 : Option AV} {x : Int32} {L2 : List (Nat × AV)} {St : List AV} {S : SS} : ev c 302 9 [l0, l1, l2, l3] L2 (aI x :: St) S = ev c 302 10 [l0, l1, some (aI x), l3] (kil L2 2) St S := ev_go i302_9 rfl
theorem i302_10 : insAt 302 10 = some (.iconst 0, 1, (0, 0, 0, 0), 0) := rfl
theorem s302_10 {c : Nat → List AV → SS → Option Out} {l0 l1 l2 l3 : Option AV} {L2 : List (Nat × AV)} {St : List AV} {S : SS} : ev c 302 10 [l0, l1, l2, l3] L2 St S = ev c 302 11 [l0, l1, l2, l3] L2 (aI 0 :: St) S := ev_go i302_10 rfl
theorem i302_11 : insAt 302 11 = some (.istore_n 3, 1, (0, 0, 0, 0), 0) := rfl
theorem s302_11 {c : Nat → List AV → SS → Option Out} {l0 l1 l2 l3 : Option AV} {x : Int32} {L2 : List (Nat × AV)} {St : List AV} {S : SS} : ev c 302 11 [l0, l1, l2, l3] L2 (aI x :: St) S = ev c 302 12 [l0, l1, l2, some (aI x)] (kil L2 3) St S := ev_go i302_11 rfl
theorem i302_12 : insAt 302 12 = some (.iload_n 3, 1, (0, 0, 0, 0), 0) := rfl
theorem s302_12 {c : Nat → List AV → SS → Option Out} {l0 l1 l2 : Option AV} {x : Int32} {L2 : List (Nat × AV)} {St : List AV} {S : SS} : ev c 302 12 [l0, l1, l2, some (aI x)] L2 St S = ev c 302 13 [l0, l1, l2, some (aI x)] L2 (aI x :: St) S := ev_go i302_12 rfl
theorem i302_13 : insAt 302 13 = some (.aload_n 0, 1, (0, 0, 0, 0), 0) := rfl
theorem s302_13 {c : Nat → List AV → SS → Option Out} {l1 l2 l3 : Option AV} {o : OId} {L2 : List (Nat × AV)} {St : List AV} {S : SS} : ev c 302 13 [some (aR o), l1, l2, l3] L2 St S = ev c 302 14 [some (aR o), l1, l2, l3] L2 (aR o :: St) S := ev_go i302_13 rfl
theorem i302_14 : insAt 302 14 = some (.getfield 7, 3, (12, 0, 0, 0), 364) := rfl
theorem s302_14 {c : Nat → List AV → SS → Option Out} {l0 l1 l2 l3 : Option AV} {j t : Nat} {L2 : List (Nat × AV)} {St : List AV} {S : SS} : ev c 302 14 [l0, l1, l2, l3] L2 (aR (12, j, t) :: St) S = ev c 302 17 [l0, l1, l2, l3] L2 (S.2.2.1 (12, j, t) 0 :: St) S := ev_go i302_14 rfl
theorem i302_17 : insAt 302 17 = some (.bipush 7, 2, (0, 0, 0, 0), 0) := rfl
theorem s302_17 {c : Nat → List AV → SS → Option Out} {l0 l1 l2 l3 : Option AV} {L2 : List (Nat × AV)} {St : List AV} {S : SS} : ev c 302 17 [l0, l1, l2, l3] L2 St S = ev c 302 19 [l0, l1, l2, l3] L2 (aI 7 :: St) S := ev_go i302_17 rfl
theorem i302_19 : insAt 302 19 = some (.iaload, 1, (0, 0, 0, 0), 0) := rfl
theorem s302_19 {c : Nat → List AV → SS → Option Out} {l0 l1 l2 l3 : Option AV} {i : Int32} {o : OId} {L2 : List (Nat × AV)} {St : List AV} {S : SS} : ev c 302 19 [l0, l1, l2, l3] L2 (aI i :: aR o :: St) S = kI o i (ev c 302 20 [l0, l1, l2, l3] L2 (aI (agI S o i.toNatClampNeg) :: St) S) := ev_iaload i302_19
theorem i302_20 : insAt 302 20 = some (.if_icmp .ge 62, 3, (0, 0, 0, 0), 0) := rfl
theorem s302_20 {c : Nat → List AV → SS → Option Out} {l0 l1 l2 l3 : Option AV} {x y : Int32} {L2 : List (Nat × AV)} {St : List AV} {S : SS} : ev c 302 20 [l0, l1, l2, l3] L2 (aI y :: aI x :: St) S = if y ≤ x then ev c 302 82 [l0, l1, l2, l3] L2 St S else ev c 302 23 [l0, l1, l2, l3] L2 St S := ev_br i302_20 rfl
theorem i302_23 : insAt 302 23 = some (.aload_n 0, 1, (0, 0, 0, 0), 0) := rfl
theorem s302_23 {c : Nat → List AV → SS → Option Out} {l1 l2 l3 : Option AV} {o : OId} {L2 : List (Nat × AV)} {St : List AV} {S : SS} : ev c 302 23 [some (aR o), l1, l2, l3] L2 St S = ev c 302 24 [some (aR o), l1, l2, l3] L2 (aR o :: St) S := ev_go i302_23 rfl
theorem i302_24 : insAt 302 24 = some (.iload_n 3, 1, (0, 0, 0, 0), 0) := rfl
theorem s302_24 {c : Nat → List AV → SS → Option Out} {l0 l1 l2 : Option AV} {x : Int32} {L2 : List (Nat × AV)} {St : List AV} {S : SS} : ev c 302 24 [l0, l1, l2, some (aI x)] L2 St S = ev c 302 25 [l0, l1, l2, some (aI x)] L2 (aI x :: St) S := ev_go i302_24 rfl
theorem i302_25 : insAt 302 25 = some (.invokevirtual 115, 3, (230, 1, 2, 12), 400) := rfl
theorem s302_25 {c : Nat → List AV → SS → Option Out} {l0 l1 l2 l3 : Option AV} {a0 : Int32} {j t : Nat} {L2 : List (Nat × AV)} {S : SS} : ev c 302 25 [l0, l1, l2, l3] L2 [aI a0, aR (12, j, t)] S = ck (c 230 [aR (12, j, t), aI a0] S) (fun v S' => ev c 302 28 [l0, l1, l2, l3] L2 (v.toList ++ []) S') := ev_call i302_25 rfl
theorem i302_28 : insAt 302 28 = some (.ifCond .ne 6, 3, (0, 0, 0, 0), 0) := rfl
theorem s302_28 {c : Nat → List AV → SS → Option Out} {l0 l1 l2 l3 : Option AV} {x : Int32} {L2 : List (Nat × AV)} {St : List AV} {S : SS} : ev c 302 28 [l0, l1, l2, l3] L2 (aI x :: St) S = if x = 0 then ev c 302 31 [l0, l1, l2, l3] L2 St S else ev c 302 34 [l0, l1, l2, l3] L2 St S := (ev_br i302_28 rfl).trans (ite_not _ _ _)
theorem i302_31 : insAt 302 31 = some (.goto 45, 3, (0, 0, 0, 0), 0) := rfl
theorem s302_31 {c : Nat → List AV → SS → Option Out} {l0 l1 l2 l3 : Option AV} {L2 : List (Nat × AV)} {St : List AV} {S : SS} : ev c 302 31 [l0, l1, l2, l3] L2 St S = ev c 302 76 [l0, l1, l2, l3] L2 St S := ev_go i302_31 rfl
theorem i302_34 : insAt 302 34 = some (.aload_n 0, 1, (0, 0, 0, 0), 0) := rfl
theorem s302_34 {c : Nat → List AV → SS → Option Out} {l1 l2 l3 : Option AV} {o : OId} {L2 : List (Nat × AV)} {St : List AV} {S : SS} : ev c 302 34 [some (aR o), l1, l2, l3] L2 St S = ev c 302 35 [some (aR o), l1, l2, l3] L2 (aR o :: St) S := ev_go i302_34 rfl
theorem i302_35 : insAt 302 35 = some (.iload_n 3, 1, (0, 0, 0, 0), 0) := rfl
theorem s302_35 {c : Nat → List AV → SS → Option Out} {l0 l1 l2 : Option AV} {x : Int32} {L2 : List (Nat × AV)} {St : List AV} {S : SS} : ev c 302 35 [l0, l1, l2, some (aI x)] L2 St S = ev c 302 36 [l0, l1, l2, some (aI x)] L2 (aI x :: St) S := ev_go i302_35 rfl
theorem i302_36 : insAt 302 36 = some (.iconst 3, 1, (0, 0, 0, 0), 0) := rfl
theorem s302_36 {c : Nat → List AV → SS → Option Out} {l0 l1 l2 l3 : Option AV} {L2 : List (Nat × AV)} {St : List AV} {S : SS} : ev c 302 36 [l0, l1, l2, l3] L2 St S = ev c 302 37 [l0, l1, l2, l3] L2 (aI 3 :: St) S := ev_go i302_36 rfl
theorem i302_37 : insAt 302 37 = some (.invokevirtual 75, 3, (231, 2, 2, 12), 396) := rfl
theorem s302_37 {c : Nat → List AV → SS → Option Out} {l0 l1 l2 l3 : Option AV} {a0 : Int32} {a1 : Int32} {j t : Nat} {L2 : List (Nat × AV)} {S : SS} : ev c 302 37 [l0, l1, l2, l3] L2 [aI a1, aI a0, aR (12, j, t)] S = ck (c 231 [aR (12, j, t), aI a0, aI a1] S) (fun v S' => ev c 302 40 [l0, l1, l2, l3] L2 (v.toList ++ []) S') := ev_call i302_37 rfl
theorem i302_40 : insAt 302 40 = some (.iload_n 1, 1, (0, 0, 0, 0), 0) := rfl
theorem s302_40 {c : Nat → List AV → SS → Option Out} {l0 l2 l3 : Option AV} {x : Int32} {L2 : List (Nat × AV)} {St : List AV} {S : SS} : ev c 302 40 [l0, some (aI x), l2, l3] L2 St S = ev c 302 41 [l0, some (aI x), l2, l3] L2 (aI x :: St) S := ev_go i302_40 rfl
theorem i302_41 : insAt 302 41 = some (.if_icmp .ge 12, 3, (0, 0, 0, 0), 0) := rfl
theorem s302_41 {c : Nat → List AV → SS → Option Out} {l0 l1 l2 l3 : Option AV} {x y : Int32} {L2 : List (Nat × AV)} {St : List AV} {S : SS} : ev c 302 41 [l0, l1, l2, l3] L2 (aI y :: aI x :: St) S = if y ≤ x then ev c 302 53 [l0, l1, l2, l3] L2 St S else ev c 302 44 [l0, l1, l2, l3] L2 St S := ev_br i302_41 rfl
theorem i302_44 : insAt 302 44 = some (.aload_n 0, 1, (0, 0, 0, 0), 0) := rfl
theorem s302_44 {c : Nat → List AV → SS → Option Out} {l1 l2 l3 : Option AV} {o : OId} {L2 : List (Nat × AV)} {St : List AV} {S : SS} : ev c 302 44 [some (aR o), l1, l2, l3] L2 St S = ev c 302 45 [some (aR o), l1, l2, l3] L2 (aR o :: St) S := ev_go i302_44 rfl
theorem i302_45 : insAt 302 45 = some (.iload_n 3, 1, (0, 0, 0, 0), 0) := rfl
theorem s302_45 {c : Nat → List AV → SS → Option Out} {l0 l1 l2 : Option AV} {x : Int32} {L2 : List (Nat × AV)} {St : List AV} {S : SS} : ev c 302 45 [l0, l1, l2, some (aI x)] L2 St S = ev c 302 46 [l0, l1, l2, some (aI x)] L2 (aI x :: St) S := ev_go i302_45 rfl
theorem i302_46 : insAt 302 46 = some (.iconst 3, 1, (0, 0, 0, 0), 0) := rfl
theorem s302_46 {c : Nat → List AV → SS → Option Out} {l0 l1 l2 l3 : Option AV} {L2 : List (Nat × AV)} {St : List AV} {S : SS} : ev c 302 46 [l0, l1, l2, l3] L2 St S = ev c 302 47 [l0, l1, l2, l3] L2 (aI 3 :: St) S := ev_go i302_46 rfl
theorem i302_47 : insAt 302 47 = some (.invokevirtual 75, 3, (231, 2, 2, 12), 396) := rfl
theorem s302_47 {c : Nat → List AV → SS → Option Out} {l0 l1 l2 l3 : Option AV} {a0 : Int32} {a1 : Int32} {j t : Nat} {L2 : List (Nat × AV)} {S : SS} : ev c 302 47 [l0, l1, l2, l3] L2 [aI a1, aI a0, aR (12, j, t)] S = ck (c 231 [aR (12, j, t), aI a0, aI a1] S) (fun v S' => ev c 302 50 [l0, l1, l2, l3] L2 (v.toList ++ []) S') := ev_call i302_47 rfl
theorem i302_50 : insAt 302 50 = some (.goto 4, 3, (0, 0, 0, 0), 0) := rfl
theorem s302_50 {c : Nat → List AV → SS → Option Out} {l0 l1 l2 l3 : Option AV} {L2 : List (Nat × AV)} {St : List AV} {S : SS} : ev c 302 50 [l0, l1, l2, l3] L2 St S = ev c 302 54 [l0, l1, l2, l3] L2 St S := ev_go i302_50 rfl
theorem i302_53 : insAt 302 53 = some (.iload_n 1, 1, (0, 0, 0, 0), 0) := rfl
theorem s302_53 {c : Nat → List AV → SS → Option Out} {l0 l2 l3 : Option AV} {x : Int32} {L2 : List (Nat × AV)} {St : List AV} {S : SS} : ev c 302 53 [l0, some (aI x), l2, l3] L2 St S = ev c 302 54 [l0, some (aI x), l2, l3] L2 (aI x :: St) S := ev_go i302_53 rfl
theorem i302_54 : insAt 302 54 = some (.istore_n 1, 1, (0, 0, 0, 0), 0) := rfl
theorem s302_54 {c : Nat → List AV → SS → Option Out} {l0 l1 l2 l3 : Option AV} {x : Int32} {L2 : List (Nat × AV)} {St : List AV} {S : SS} : ev c 302 54 [l0, l1, l2, l3] L2 (aI x :: St) S = ev c 302 55 [l0, some (aI x), l2, l3] (kil L2 1) St S := ev_go i302_54 rfl
theorem i302_55 : insAt 302 55 = some (.aload_n 0, 1, (0, 0, 0, 0), 0) := rfl
theorem s302_55 {c : Nat → List AV → SS → Option Out} {l1 l2 l3 : Option AV} {o : OId} {L2 : List (Nat × AV)} {St : List AV} {S : SS} : ev c 302 55 [some (aR o), l1, l2, l3] L2 St S = ev c 302 56 [some (aR o), l1, l2, l3] L2 (aR o :: St) S := ev_go i302_55 rfl
theorem i302_56 : insAt 302 56 = some (.iload_n 3, 1, (0, 0, 0, 0), 0) := rfl
theorem s302_56 {c : Nat → List AV → SS → Option Out} {l0 l1 l2 : Option AV} {x : Int32} {L2 : List (Nat × AV)} {St : List AV} {S : SS} : ev c 302 56 [l0, l1, l2, some (aI x)] L2 St S = ev c 302 57 [l0, l1, l2, some (aI x)] L2 (aI x :: St) S := ev_go i302_56 rfl
theorem i302_57 : insAt 302 57 = some (.iconst 3, 1, (0, 0, 0, 0), 0) := rfl
theorem s302_57 {c : Nat → List AV → SS → Option Out} {l0 l1 l2 l3 : Option AV} {L2 : List (Nat × AV)} {St : List AV} {S : SS} : ev c 302 57 [l0, l1, l2, l3] L2 St S = ev c 302 58 [l0, l1, l2, l3] L2 (aI 3 :: St) S := ev_go i302_57 rfl
theorem i302_58 : insAt 302 58 = some (.invokevirtual 75, 3, (231, 2, 2, 12), 396) := rfl
theorem s302_58 {c : Nat → List AV → SS → Option Out} {l0 l1 l2 l3 : Option AV} {a0 : Int32} {a1 : Int32} {j t : Nat} {L2 : List (Nat × AV)} {S : SS} : ev c 302 58 [l0, l1, l2, l3] L2 [aI a1, aI a0, aR (12, j, t)] S = ck (c 231 [aR (12, j, t), aI a0, aI a1] S) (fun v S' => ev c 302 61 [l0, l1, l2, l3] L2 (v.toList ++ []) S') := ev_call i302_58 rfl
theorem i302_61 : insAt 302 61 = some (.iload_n 2, 1, (0, 0, 0, 0), 0) := rfl
theorem s302_61 {c : Nat → List AV → SS → Option Out} {l0 l1 l3 : Option AV} {x : Int32} {L2 : List (Nat × AV)} {St : List AV} {S : SS} : ev c 302 61 [l0, l1, some (aI x), l3] L2 St S = ev c 302 62 [l0, l1, some (aI x), l3] L2 (aI x :: St) S := ev_go i302_61 rfl
theorem i302_62 : insAt 302 62 = some (.if_icmp .le 12, 3, (0, 0, 0, 0), 0) := rfl
theorem s302_62 {c : Nat → List AV → SS → Option Out} {l0 l1 l2 l3 : Option AV} {x y : Int32} {L2 : List (Nat × AV)} {St : List AV} {S : SS} : ev c 302 62 [l0, l1, l2, l3] L2 (aI y :: aI x :: St) S = if x ≤ y then ev c 302 74 [l0, l1, l2, l3] L2 St S else ev c 302 65 [l0, l1, l2, l3] L2 St S := ev_br i302_62 rfl
theorem i302_65 : insAt 302 65 = some (.aload_n 0, 1, (0, 0, 0, 0), 0) := rfl
theorem s302_65 {c : Nat → List AV → SS → Option Out} {l1 l2 l3 : Option AV} {o : OId} {L2 : List (Nat × AV)} {St : List AV} {S : SS} : ev c 302 65 [some (aR o), l1, l2, l3] L2 St S = ev c 302 66 [some (aR o), l1, l2, l3] L2 (aR o :: St) S := ev_go i302_65 rfl
theorem i302_66 : insAt 302 66 = some (.iload_n 3, 1, (0, 0, 0, 0), 0) := rfl
theorem s302_66 {c : Nat → List AV → SS → Option Out} {l0 l1 l2 : Option AV} {x : Int32} {L2 : List (Nat × AV)} {St : List AV} {S : SS} : ev c 302 66 [l0, l1, l2, some (aI x)] L2 St S = ev c 302 67 [l0, l1, l2, some (aI x)] L2 (aI x :: St) S := ev_go i302_66 rfl
theorem i302_67 : insAt 302 67 = some (.iconst 3, 1, (0, 0, 0, 0), 0) := rfl
theorem s302_67 {c : Nat → List AV → SS → Option Out} {l0 l1 l2 l3 : Option AV} {L2 : List (Nat × AV)} {St : List AV} {S : SS} : ev c 302 67 [l0, l1, l2, l3] L2 St S = ev c 302 68 [l0, l1, l2, l3] L2 (aI 3 :: St) S := ev_go i302_67 rfl
theorem i302_68 : insAt 302 68 = some (.invokevirtual 75, 3, (231, 2, 2, 12), 396) := rfl
theorem s302_68 {c : Nat → List AV → SS → Option Out} {l0 l1 l2 l3 : Option AV} {a0 : Int32} {a1 : Int32} {j t : Nat} {L2 : List (Nat × AV)} {S : SS} : ev c 302 68 [l0, l1, l2, l3] L2 [aI a1, aI a0, aR (12, j, t)] S = ck (c 231 [aR (12, j, t), aI a0, aI a1] S) (fun v S' => ev c 302 71 [l0, l1, l2, l3] L2 (v.toList ++ []) S') := ev_call i302_68 rfl
theorem i302_71 : insAt 302 71 = some (.goto 4, 3, (0, 0, 0, 0), 0) := rfl
theorem s302_71 {c : Nat → List AV → SS → Option Out} {l0 l1 l2 l3 : Option AV} {L2 : List (Nat × AV)} {St : List AV} {S : SS} : ev c 302 71 [l0, l1, l2, l3] L2 St S = ev c 302 75 [l0, l1, l2, l3] L2 St S := ev_go i302_71 rfl
theorem i302_74 : insAt 302 74 = some (.iload_n 2, 1, (0, 0, 0, 0), 0) := rfl
theorem s302_74 {c : Nat → List AV → SS → Option Out} {l0 l1 l3 : Option AV} {x : Int32} {L2 : List (Nat × AV)} {St : List AV} {S : SS} : ev c 302 74 [l0, l1, some (aI x), l3] L2 St S = ev c 302 75 [l0, l1, some (aI x), l3] L2 (aI x :: St) S := ev_go i302_74 rfl
theorem i302_75 : insAt 302 75 = some (.istore_n 2, 1, (0, 0, 0, 0), 0) := rfl
theorem s302_75 {c : Nat → List AV → SS → Option Out} {l0 l1 l2 l3 : Option AV} {x : Int32} {L2 : List (Nat × AV)} {St : List AV} {S : SS} : ev c 302 75 [l0, l1, l2, l3] L2 (aI x :: St) S = ev c 302 76 [l0, l1, some (aI x), l3] (kil L2 2) St S := ev_go i302_75 rfl
theorem i302_76 : insAt 302 76 = some (.iinc 3 1, 3, (0, 0, 0, 0), 0) := rfl
theorem s302_76 {c : Nat → List AV → SS → Option Out} {l0 l1 l2 : Option AV} {x : Int32} {L2 : List (Nat × AV)} {St : List AV} {S : SS} : ev c 302 76 [l0, l1, l2, some (aI x)] L2 St S = ev c 302 79 [l0, l1, l2, some (aI (x + 1))] (kil L2 3) St S := ev_go i302_76 rfl
theorem i302_79 : insAt 302 79 = some (.goto (-67), 3, (0, 0, 0, 0), 0) := rfl
theorem s302_79 {c : Nat → List AV → SS → Option Out} {l0 l1 l2 l3 : Option AV} {L2 : List (Nat × AV)} {St : List AV} {S : SS} : ev c 302 79 [l0, l1, l2, l3] L2 St S = ev c 302 12 [l0, l1, l2, l3] L2 St S := ev_go i302_79 rfl
theorem i302_82 : insAt 302 82 = some (.iload_n 2, 1, (0, 0, 0, 0), 0) := rfl
theorem s302_82 {c : Nat → List AV → SS → Option Out} {l0 l1 l3 : Option AV} {x : Int32} {L2 : List (Nat × AV)} {St : List AV} {S : SS} : ev c 302 82 [l0, l1, some (aI x), l3] L2 St S = ev c 302 83 [l0, l1, some (aI x), l3] L2 (aI x :: St) S := ev_go i302_82 rfl
theorem i302_83 : insAt 302 83 = some (.ifCond .ge 7, 3, (0, 0, 0, 0), 0) := rfl
theorem s302_83 {c : Nat → List AV → SS → Option Out} {l0 l1 l2 l3 : Option AV} {x : Int32} {L2 : List (Nat × AV)} {St : List AV} {S : SS} : ev c 302 83 [l0, l1, l2, l3] L2 (aI x :: St) S = if 0 ≤ x then ev c 302 90 [l0, l1, l2, l3] L2 St S else ev c 302 86 [l0, l1, l2, l3] L2 St S := ev_br i302_83 rfl
theorem i302_86 : insAt 302 86 = some (.iconst 0, 1, (0, 0, 0, 0), 0) := rfl
theorem s302_86 {c : Nat → List AV → SS → Option Out} {l0 l1 l2 l3 : Option AV} {L2 : List (Nat × AV)} {St : List AV} {S : SS} : ev c 302 86 [l0, l1, l2, l3] L2 St S = ev c 302 87 [l0, l1, l2, l3] L2 (aI 0 :: St) S := ev_go i302_86 rfl
theorem i302_87 : insAt 302 87 = some (.goto 8, 3, (0, 0, 0, 0), 0) := rfl
theorem s302_87 {c : Nat → List AV → SS → Option Out} {l0 l1 l2 l3 : Option AV} {L2 : List (Nat × AV)} {St : List AV} {S : SS} : ev c 302 87 [l0, l1, l2, l3] L2 St S = ev c 302 95 [l0, l1, l2, l3] L2 St S := ev_go i302_87 rfl
theorem i302_90 : insAt 302 90 = some (.iload_n 2, 1, (0, 0, 0, 0), 0) := rfl
theorem s302_90 {c : Nat → List AV → SS → Option Out} {l0 l1 l3 : Option AV} {x : Int32} {L2 : List (Nat × AV)} {St : List AV} {S : SS} : ev c 302 90 [l0, l1, some (aI x), l3] L2 St S = ev c 302 91 [l0, l1, some (aI x), l3] L2 (aI x :: St) S := ev_go i302_90 rfl
theorem i302_91 : insAt 302 91 = some (.iload_n 1, 1, (0, 0, 0, 0), 0) := rfl
theorem s302_91 {c : Nat → List AV → SS → Option Out} {l0 l2 l3 : Option AV} {x : Int32} {L2 : List (Nat × AV)} {St : List AV} {S : SS} : ev c 302 91 [l0, some (aI x), l2, l3] L2 St S = ev c 302 92 [l0, some (aI x), l2, l3] L2 (aI x :: St) S := ev_go i302_91 rfl
theorem i302_92 : insAt 302 92 = some (.isub, 1, (0, 0, 0, 0), 0) := rfl
theorem s302_92 {c : Nat → List AV → SS → Option Out} {l0 l1 l2 l3 : Option AV} {x y : Int32} {L2 : List (Nat × AV)} {St : List AV} {S : SS} : ev c 302 92 [l0, l1, l2, l3] L2 (aI y :: aI x :: St) S = ev c 302 93 [l0, l1, l2, l3] L2 (aI (x - y) :: St) S := ev_go i302_92 rfl
theorem i302_93 : insAt 302 93 = some (.iconst 1, 1, (0, 0, 0, 0), 0) := rfl
theorem s302_93 {c : Nat → List AV → SS → Option Out} {l0 l1 l2 l3 : Option AV} {L2 : List (Nat × AV)} {St : List AV} {S : SS} : ev c 302 93 [l0, l1, l2, l3] L2 St S = ev c 302 94 [l0, l1, l2, l3] L2 (aI 1 :: St) S := ev_go i302_93 rfl
theorem i302_94 : insAt 302 94 = some (.iadd, 1, (0, 0, 0, 0), 0) := rfl
theorem s302_94 {c : Nat → List AV → SS → Option Out} {l0 l1 l2 l3 : Option AV} {x y : Int32} {L2 : List (Nat × AV)} {St : List AV} {S : SS} : ev c 302 94 [l0, l1, l2, l3] L2 (aI y :: aI x :: St) S = ev c 302 95 [l0, l1, l2, l3] L2 (aI (x + y) :: St) S := ev_go i302_94 rfl
theorem i302_95 : insAt 302 95 = some (.ireturn, 1, (0, 0, 0, 0), 0) := rfl
theorem s302_95 {c : Nat → List AV → SS → Option Out} {l0 l1 l2 l3 : Option AV} {x : Int32} {L2 : List (Nat × AV)} {S : SS} : ev c 302 95 [l0, l1, l2, l3] L2 [aI x] S = some (.inl (some (aI x)), S) := ev_end i302_95 rfl
theorem m302 {d : Nat} {o : OId} {S : SS} : evm (d + 1) 302 [aR o] S = ev (evm d) 302 0 [some (aR o), none, none, none] [] [] S := evm_s (n := 4) rfl (Nat.le_of_ble_eq_true rfl) rfl rfl
/-! FrequencyOfficeModel.writeStation(I)I -/
theorem i303_0 : insAt 303 0 = some (.aload_n 0, 1, (0, 0, 0, 0), 0) := rfl
theorem s303_0 {c : Nat → List AV → SS → Option Out} {l1 l2 : Option AV} {o : OId} {L2 : List (Nat × AV)} {St : List AV} {S : SS} : ev c 303 0 [some (aR o), l1, l2] L2 St S = ev c 303 1 [some (aR o), l1, l2] L2 (aR o :: St) S := ev_go i303_0 rfl
theorem i303_1 : insAt 303 1 = some (.iload_n 1, 1, (0, 0, 0, 0), 0) := rfl
theorem s303_1 {c : Nat → List AV → SS → Option Out} {l0 l2 : Option AV} {x : Int32} {L2 : List (Nat × AV)} {St : List AV} {S : SS} : ev c 303 1 [l0, some (aI x), l2] L2 St S = ev c 303 2 [l0, some (aI x), l2] L2 (aI x :: St) S := ev_go i303_1 rfl
theorem i303_2 : insAt 303 2 = some (.invokevirtual 173, 3, (253, 1, 2, 12), 414) := rfl
theorem s303_2 {c : Nat → List AV → SS → Option Out} {l0 l1 l2 : Option AV} {a0 : Int32} {j t : Nat} {L2 : List (Nat × AV)} {S : SS} : ev c 303 2 [l0, l1, l2] L2 [aI a0, aR (12, j, t)] S = ck (c 253 [aR (12, j, t), aI a0] S) (fun v S' => ev c 303 5 [l0, l1, l2] L2 (v.toList ++ []) S') := ev_call i303_2 rfl
theorem i303_5 : insAt 303 5 = some (.istore_n 2, 1, (0, 0, 0, 0), 0) := rfl
theorem s303_5 {c : Nat → List AV → SS → Option Out} {l0 l1 l2 : Option AV} {x : Int32} {L2 : List (Nat × AV)} {St : List AV} {S : SS} : ev c 303 5 [l0, l1, l2] L2 (aI x :: St) S = ev c 303 6 [l0, l1, some (aI x)] (kil L2 2) St S := ev_go i303_5 rfl
theorem i303_6 : insAt 303 6 = some (.aload_n 0, 1, (0, 0, 0, 0), 0) := rfl
theorem s303_6 {c : Nat → List AV → SS → Option Out} {l1 l2 : Option AV} {o : OId} {L2 : List (Nat × AV)} {St : List AV} {S : SS} : ev c 303 6 [some (aR o), l1, l2] L2 St S = ev c 303 7 [some (aR o), l1, l2] L2 (aR o :: St) S := ev_go i303_6 rfl
theorem i303_7 : insAt 303 7 = some (.iload_n 2, 1, (0, 0, 0, 0), 0) := rfl
theorem s303_7 {c : Nat → List AV → SS → Option Out} {l0 l1 : Option AV} {x : Int32} {L2 : List (Nat × AV)} {St : List AV} {S : SS} : ev c 303 7 [l0, l1, some (aI x)] L2 St S = ev c 303 8 [l0, l1, some (aI x)] L2 (aI x :: St) S := ev_go i303_7 rfl
theorem i303_8 : insAt 303 8 = some (.ifCond .lt 7, 3, (0, 0, 0, 0), 0) := rfl
theorem s303_8 {c : Nat → List AV → SS → Option Out} {l0 l1 l2 : Option AV} {x : Int32} {L2 : List (Nat × AV)} {St : List AV} {S : SS} : ev c 303 8 [l0, l1, l2] L2 (aI x :: St) S = if x < 0 then ev c 303 15 [l0, l1, l2] L2 St S else ev c 303 11 [l0, l1, l2] L2 St S := ev_br i303_8 rfl
theorem i303_11 : insAt 303 11 = some (.iconst 1, 1, (0, 0, 0, 0), 0) := rfl
theorem s303_11 {c : Nat → List AV → SS → Option Out} {l0 l1 l2 : Option AV} {L2 : List (Nat × AV)} {St : List AV} {S : SS} : ev c 303 11 [l0, l1, l2] L2 St S = ev c 303 12 [l0, l1, l2] L2 (aI 1 :: St) S := ev_go i303_11 rfl
theorem i303_12 : insAt 303 12 = some (.goto 4, 3, (0, 0, 0, 0), 0) := rfl
theorem s303_12 {c : Nat → List AV → SS → Option Out} {l0 l1 l2 : Option AV} {L2 : List (Nat × AV)} {St : List AV} {S : SS} : ev c 303 12 [l0, l1, l2] L2 St S = ev c 303 16 [l0, l1, l2] L2 St S := ev_go i303_12 rfl
theorem i303_15 : insAt 303 15 = some (.iconst 0, 1, (0, 0, 0, 0), 0) := rfl
theorem s303_15 {c : Nat → List AV → SS → Option Out} {l0 l1 l2 : Option AV} {L2 : List (Nat × AV)} {St : List AV} {S : SS} : ev c 303 15 [l0, l1, l2] L2 St S = ev c 303 16 [l0, l1, l2] L2 (aI 0 :: St) S := ev_go i303_15 rfl
theorem i303_16 : insAt 303 16 = some (.invokevirtual 176, 3, (256, 1, 2, 12), 415) := rfl
theorem s303_16 {c : Nat → List AV → SS → Option Out} {l0 l1 l2 : Option AV} {a0 : Int32} {j t : Nat} {L2 : List (Nat × AV)} {S : SS} : ev c 303 16 [l0, l1, l2] L2 [aI a0, aR (12, j, t)] S = ck (c 256 [aR (12, j, t), aI a0] S) (fun v S' => ev c 303 19 [l0, l1, l2] L2 (v.toList ++ []) S') := ev_call i303_16 rfl
theorem i303_19 : insAt 303 19 = some (.ifCond .le 5, 3, (0, 0, 0, 0), 0) := rfl
theorem s303_19 {c : Nat → List AV → SS → Option Out} {l0 l1 l2 : Option AV} {x : Int32} {L2 : List (Nat × AV)} {St : List AV} {S : SS} : ev c 303 19 [l0, l1, l2] L2 (aI x :: St) S = if x ≤ 0 then ev c 303 24 [l0, l1, l2] L2 St S else ev c 303 22 [l0, l1, l2] L2 St S := ev_br i303_19 rfl
theorem i303_22 : insAt 303 22 = some (.iconst 0, 1, (0, 0, 0, 0), 0) := rfl
theorem s303_22 {c : Nat → List AV → SS → Option Out} {l0 l1 l2 : Option AV} {L2 : List (Nat × AV)} {St : List AV} {S : SS} : ev c 303 22 [l0, l1, l2] L2 St S = ev c 303 23 [l0, l1, l2] L2 (aI 0 :: St) S := ev_go i303_22 rfl
theorem i303_23 : insAt 303 23 = some (.ireturn, 1, (0, 0, 0, 0), 0) := rfl
theorem s303_23 {c : Nat → List AV → SS → Option Out} {l0 l1 l2 : Option AV} {x : Int32} {L2 : List (Nat × AV)} {S : SS} : ev c 303 23 [l0, l1, l2] L2 [aI x] S = some (.inl (some (aI x)), S) := ev_end i303_23 rfl
theorem i303_24 : insAt 303 24 = some (.aload_n 0, 1, (0, 0, 0, 0), 0) := rfl
theorem s303_24 {c : Nat → List AV → SS → Option Out} {l1 l2 : Option AV} {o : OId} {L2 : List (Nat × AV)} {St : List AV} {S : SS} : ev c 303 24 [some (aR o), l1, l2] L2 St S = ev c 303 25 [some (aR o), l1, l2] L2 (aR o :: St) S := ev_go i303_24 rfl
theorem i303_25 : insAt 303 25 = some (.new 60, 3, (1, 0, 0, 0), 380) := rfl
theorem i303_28 : insAt 303 28 = some (.dup, 1, (0, 0, 0, 0), 0) := rfl
theorem s303_28 {c : Nat → List AV → SS → Option Out} {l0 l1 l2 : Option AV} {x : OId} {L2 : List (Nat × AV)} {St : List AV} {S : SS} : ev c 303 28 [l0, l1, l2] L2 (aR x :: St) S = ev c 303 29 [l0, l1, l2] L2 (aR x :: aR x :: St) S := ev_go i303_28 rfl
theorem i303_29 : insAt 303 29 = some (.invokespecial 62, 3, (8, 0, 5, 1), 381) := rfl
theorem s303_29 {c : Nat → List AV → SS → Option Out} {l0 l1 l2 : Option AV} {t0 t1 : AV} {j t : Nat} {L2 : List (Nat × AV)} {S : SS} : ev c 303 29 [l0, l1, l2] L2 [aR (1, j, t), t0, t1] S = ck (c 8 [aR (1, j, t)] S) (fun v S' => ev c 303 32 [l0, l1, l2] L2 (v.toList ++ [t0, t1]) S') := ev_call i303_29 rfl
theorem i303_32 : insAt 303 32 = some (.iload_n 1, 1, (0, 0, 0, 0), 0) := rfl
theorem s303_32 {c : Nat → List AV → SS → Option Out} {l0 l2 : Option AV} {x : Int32} {L2 : List (Nat × AV)} {St : List AV} {S : SS} : ev c 303 32 [l0, some (aI x), l2] L2 St S = ev c 303 33 [l0, some (aI x), l2] L2 (aI x :: St) S := ev_go i303_32 rfl
theorem i303_33 : insAt 303 33 = some (.invokevirtual 217, 3, (186, 1, 2, 1), 428) := rfl
theorem s303_33 {c : Nat → List AV → SS → Option Out} {l0 l1 l2 : Option AV} {t0 : AV} {a0 : Int32} {j t : Nat} {L2 : List (Nat × AV)} {S : SS} : ev c 303 33 [l0, l1, l2] L2 [aI a0, aR (1, j, t), t0] S = ck (c 186 [aR (1, j, t), aI a0] S) (fun v S' => ev c 303 36 [l0, l1, l2] L2 (v.toList ++ [t0]) S') := ev_call i303_33 rfl
theorem i303_36 : insAt 303 36 = some (.bipush 64, 2, (0, 0, 0, 0), 0) := rfl
theorem s303_36 {c : Nat → List AV → SS → Option Out} {l0 l1 l2 : Option AV} {L2 : List (Nat × AV)} {St : List AV} {S : SS} : ev c 303 36 [l0, l1, l2] L2 St S = ev c 303 38 [l0, l1, l2] L2 (aI 64 :: St) S := ev_go i303_36 rfl
theorem i303_38 : insAt 303 38 = some (.invokevirtual 221, 3, (199, 1, 2, 1), 429) := rfl
theorem s303_38 {c : Nat → List AV → SS → Option Out} {l0 l1 l2 : Option AV} {t0 : AV} {a0 : Int32} {j t : Nat} {L2 : List (Nat × AV)} {S : SS} : ev c 303 38 [l0, l1, l2] L2 [aI a0, aR (1, j, t), t0] S = ck (c 199 [aR (1, j, t), aI a0] S) (fun v S' => ev c 303 41 [l0, l1, l2] L2 (v.toList ++ [t0]) S') := ev_call i303_38 rfl
theorem i303_41 : insAt 303 41 = some (.aload_n 0, 1, (0, 0, 0, 0), 0) := rfl
theorem s303_41 {c : Nat → List AV → SS → Option Out} {l1 l2 : Option AV} {o : OId} {L2 : List (Nat × AV)} {St : List AV} {S : SS} : ev c 303 41 [some (aR o), l1, l2] L2 St S = ev c 303 42 [some (aR o), l1, l2] L2 (aR o :: St) S := ev_go i303_41 rfl
theorem i303_42 : insAt 303 42 = some (.iload_n 2, 1, (0, 0, 0, 0), 0) := rfl
theorem s303_42 {c : Nat → List AV → SS → Option Out} {l0 l1 : Option AV} {x : Int32} {L2 : List (Nat × AV)} {St : List AV} {S : SS} : ev c 303 42 [l0, l1, some (aI x)] L2 St S = ev c 303 43 [l0, l1, some (aI x)] L2 (aI x :: St) S := ev_go i303_42 rfl
theorem i303_43 : insAt 303 43 = some (.iconst 1, 1, (0, 0, 0, 0), 0) := rfl
theorem s303_43 {c : Nat → List AV → SS → Option Out} {l0 l1 l2 : Option AV} {L2 : List (Nat × AV)} {St : List AV} {S : SS} : ev c 303 43 [l0, l1, l2] L2 St S = ev c 303 44 [l0, l1, l2] L2 (aI 1 :: St) S := ev_go i303_43 rfl
theorem i303_44 : insAt 303 44 = some (.invokevirtual 75, 3, (231, 2, 2, 12), 396) := rfl
theorem s303_44 {c : Nat → List AV → SS → Option Out} {l0 l1 l2 : Option AV} {t0 t1 : AV} {a0 : Int32} {a1 : Int32} {j t : Nat} {L2 : List (Nat × AV)} {S : SS} : ev c 303 44 [l0, l1, l2] L2 [aI a1, aI a0, aR (12, j, t), t0, t1] S = ck (c 231 [aR (12, j, t), aI a0, aI a1] S) (fun v S' => ev c 303 47 [l0, l1, l2] L2 (v.toList ++ [t0, t1]) S') := ev_call i303_44 rfl
theorem i303_47 : insAt 303 47 = some (.invokevirtual 217, 3, (186, 1, 2, 1), 428) := rfl
theorem s303_47 {c : Nat → List AV → SS → Option Out} {l0 l1 l2 : Option AV} {t0 : AV} {a0 : Int32} {j t : Nat} {L2 : List (Nat × AV)} {S : SS} : ev c 303 47 [l0, l1, l2] L2 [aI a0, aR (1, j, t), t0] S = ck (c 186 [aR (1, j, t), aI a0] S) (fun v S' => ev c 303 50 [l0, l1, l2] L2 (v.toList ++ [t0]) S') := ev_call i303_47 rfl
theorem i303_50 : insAt 303 50 = some (.bipush 44, 2, (0, 0, 0, 0), 0) := rfl
theorem s303_50 {c : Nat → List AV → SS → Option Out} {l0 l1 l2 : Option AV} {L2 : List (Nat × AV)} {St : List AV} {S : SS} : ev c 303 50 [l0, l1, l2] L2 St S = ev c 303 52 [l0, l1, l2] L2 (aI 44 :: St) S := ev_go i303_50 rfl
theorem i303_52 : insAt 303 52 = some (.invokevirtual 221, 3, (199, 1, 2, 1), 429) := rfl
theorem s303_52 {c : Nat → List AV → SS → Option Out} {l0 l1 l2 : Option AV} {t0 : AV} {a0 : Int32} {j t : Nat} {L2 : List (Nat × AV)} {S : SS} : ev c 303 52 [l0, l1, l2] L2 [aI a0, aR (1, j, t), t0] S = ck (c 199 [aR (1, j, t), aI a0] S) (fun v S' => ev c 303 55 [l0, l1, l2] L2 (v.toList ++ [t0]) S') := ev_call i303_52 rfl
theorem i303_55 : insAt 303 55 = some (.aload_n 0, 1, (0, 0, 0, 0), 0) := rfl
theorem s303_55 {c : Nat → List AV → SS → Option Out} {l1 l2 : Option AV} {o : OId} {L2 : List (Nat × AV)} {St : List AV} {S : SS} : ev c 303 55 [some (aR o), l1, l2] L2 St S = ev c 303 56 [some (aR o), l1, l2] L2 (aR o :: St) S := ev_go i303_55 rfl
theorem i303_56 : insAt 303 56 = some (.iload_n 2, 1, (0, 0, 0, 0), 0) := rfl
theorem s303_56 {c : Nat → List AV → SS → Option Out} {l0 l1 : Option AV} {x : Int32} {L2 : List (Nat × AV)} {St : List AV} {S : SS} : ev c 303 56 [l0, l1, some (aI x)] L2 St S = ev c 303 57 [l0, l1, some (aI x)] L2 (aI x :: St) S := ev_go i303_56 rfl
theorem i303_57 : insAt 303 57 = some (.iconst 2, 1, (0, 0, 0, 0), 0) := rfl
theorem s303_57 {c : Nat → List AV → SS → Option Out} {l0 l1 l2 : Option AV} {L2 : List (Nat × AV)} {St : List AV} {S : SS} : ev c 303 57 [l0, l1, l2] L2 St S = ev c 303 58 [l0, l1, l2] L2 (aI 2 :: St) S := ev_go i303_57 rfl
theorem i303_58 : insAt 303 58 = some (.invokevirtual 75, 3, (231, 2, 2, 12), 396) := rfl
theorem s303_58 {c : Nat → List AV → SS → Option Out} {l0 l1 l2 : Option AV} {t0 t1 : AV} {a0 : Int32} {a1 : Int32} {j t : Nat} {L2 : List (Nat × AV)} {S : SS} : ev c 303 58 [l0, l1, l2] L2 [aI a1, aI a0, aR (12, j, t), t0, t1] S = ck (c 231 [aR (12, j, t), aI a0, aI a1] S) (fun v S' => ev c 303 61 [l0, l1, l2] L2 (v.toList ++ [t0, t1]) S') := ev_call i303_58 rfl
theorem i303_61 : insAt 303 61 = some (.invokevirtual 217, 3, (186, 1, 2, 1), 428) := rfl
theorem s303_61 {c : Nat → List AV → SS → Option Out} {l0 l1 l2 : Option AV} {t0 : AV} {a0 : Int32} {j t : Nat} {L2 : List (Nat × AV)} {S : SS} : ev c 303 61 [l0, l1, l2] L2 [aI a0, aR (1, j, t), t0] S = ck (c 186 [aR (1, j, t), aI a0] S) (fun v S' => ev c 303 64 [l0, l1, l2] L2 (v.toList ++ [t0]) S') := ev_call i303_61 rfl
theorem i303_64 : insAt 303 64 = some (.bipush 32, 2, (0, 0, 0, 0), 0) := rfl
theorem s303_64 {c : Nat → List AV → SS → Option Out} {l0 l1 l2 : Option AV} {L2 : List (Nat × AV)} {St : List AV} {S : SS} : ev c 303 64 [l0, l1, l2] L2 St S = ev c 303 66 [l0, l1, l2] L2 (aI 32 :: St) S := ev_go i303_64 rfl
theorem i303_66 : insAt 303 66 = some (.invokevirtual 221, 3, (199, 1, 2, 1), 429) := rfl
theorem s303_66 {c : Nat → List AV → SS → Option Out} {l0 l1 l2 : Option AV} {t0 : AV} {a0 : Int32} {j t : Nat} {L2 : List (Nat × AV)} {S : SS} : ev c 303 66 [l0, l1, l2] L2 [aI a0, aR (1, j, t), t0] S = ck (c 199 [aR (1, j, t), aI a0] S) (fun v S' => ev c 303 69 [l0, l1, l2] L2 (v.toList ++ [t0]) S') := ev_call i303_66 rfl
theorem i303_69 : insAt 303 69 = some (.bipush 99, 2, (0, 0, 0, 0), 0) := rfl
theorem s303_69 {c : Nat → List AV → SS → Option Out} {l0 l1 l2 : Option AV} {L2 : List (Nat × AV)} {St : List AV} {S : SS} : ev c 303 69 [l0, l1, l2] L2 St S = ev c 303 71 [l0, l1, l2] L2 (aI 99 :: St) S := ev_go i303_69 rfl
theorem i303_71 : insAt 303 71 = some (.invokevirtual 221, 3, (199, 1, 2, 1), 429) := rfl
theorem s303_71 {c : Nat → List AV → SS → Option Out} {l0 l1 l2 : Option AV} {t0 : AV} {a0 : Int32} {j t : Nat} {L2 : List (Nat × AV)} {S : SS} : ev c 303 71 [l0, l1, l2] L2 [aI a0, aR (1, j, t), t0] S = ck (c 199 [aR (1, j, t), aI a0] S) (fun v S' => ev c 303 74 [l0, l1, l2] L2 (v.toList ++ [t0]) S') := ev_call i303_71 rfl
theorem i303_74 : insAt 303 74 = some (.aload_n 0, 1, (0, 0, 0, 0), 0) := rfl
theorem s303_74 {c : Nat → List AV → SS → Option Out} {l1 l2 : Option AV} {o : OId} {L2 : List (Nat × AV)} {St : List AV} {S : SS} : ev c 303 74 [some (aR o), l1, l2] L2 St S = ev c 303 75 [some (aR o), l1, l2] L2 (aR o :: St) S := ev_go i303_74 rfl
theorem i303_75 : insAt 303 75 = some (.iload_n 2, 1, (0, 0, 0, 0), 0) := rfl
theorem s303_75 {c : Nat → List AV → SS → Option Out} {l0 l1 : Option AV} {x : Int32} {L2 : List (Nat × AV)} {St : List AV} {S : SS} : ev c 303 75 [l0, l1, some (aI x)] L2 St S = ev c 303 76 [l0, l1, some (aI x)] L2 (aI x :: St) S := ev_go i303_75 rfl
theorem i303_76 : insAt 303 76 = some (.iconst 3, 1, (0, 0, 0, 0), 0) := rfl
theorem s303_76 {c : Nat → List AV → SS → Option Out} {l0 l1 l2 : Option AV} {L2 : List (Nat × AV)} {St : List AV} {S : SS} : ev c 303 76 [l0, l1, l2] L2 St S = ev c 303 77 [l0, l1, l2] L2 (aI 3 :: St) S := ev_go i303_76 rfl
theorem i303_77 : insAt 303 77 = some (.invokevirtual 75, 3, (231, 2, 2, 12), 396) := rfl
theorem s303_77 {c : Nat → List AV → SS → Option Out} {l0 l1 l2 : Option AV} {t0 t1 : AV} {a0 : Int32} {a1 : Int32} {j t : Nat} {L2 : List (Nat × AV)} {S : SS} : ev c 303 77 [l0, l1, l2] L2 [aI a1, aI a0, aR (12, j, t), t0, t1] S = ck (c 231 [aR (12, j, t), aI a0, aI a1] S) (fun v S' => ev c 303 80 [l0, l1, l2] L2 (v.toList ++ [t0, t1]) S') := ev_call i303_77 rfl
theorem i303_80 : insAt 303 80 = some (.invokevirtual 217, 3, (186, 1, 2, 1), 428) := rfl
theorem s303_80 {c : Nat → List AV → SS → Option Out} {l0 l1 l2 : Option AV} {t0 : AV} {a0 : Int32} {j t : Nat} {L2 : List (Nat × AV)} {S : SS} : ev c 303 80 [l0, l1, l2] L2 [aI a0, aR (1, j, t), t0] S = ck (c 186 [aR (1, j, t), aI a0] S) (fun v S' => ev c 303 83 [l0, l1, l2] L2 (v.toList ++ [t0]) S') := ev_call i303_80 rfl
theorem i303_83 : insAt 303 83 = some (.bipush 32, 2, (0, 0, 0, 0), 0) := rfl
theorem s303_83 {c : Nat → List AV → SS → Option Out} {l0 l1 l2 : Option AV} {L2 : List (Nat × AV)} {St : List AV} {S : SS} : ev c 303 83 [l0, l1, l2] L2 St S = ev c 303 85 [l0, l1, l2] L2 (aI 32 :: St) S := ev_go i303_83 rfl
theorem i303_85 : insAt 303 85 = some (.invokevirtual 221, 3, (199, 1, 2, 1), 429) := rfl
theorem s303_85 {c : Nat → List AV → SS → Option Out} {l0 l1 l2 : Option AV} {t0 : AV} {a0 : Int32} {j t : Nat} {L2 : List (Nat × AV)} {S : SS} : ev c 303 85 [l0, l1, l2] L2 [aI a0, aR (1, j, t), t0] S = ck (c 199 [aR (1, j, t), aI a0] S) (fun v S' => ev c 303 88 [l0, l1, l2] L2 (v.toList ++ [t0]) S') := ev_call i303_85 rfl
theorem i303_88 : insAt 303 88 = some (.aload_n 0, 1, (0, 0, 0, 0), 0) := rfl
theorem s303_88 {c : Nat → List AV → SS → Option Out} {l1 l2 : Option AV} {o : OId} {L2 : List (Nat × AV)} {St : List AV} {S : SS} : ev c 303 88 [some (aR o), l1, l2] L2 St S = ev c 303 89 [some (aR o), l1, l2] L2 (aR o :: St) S := ev_go i303_88 rfl
theorem i303_89 : insAt 303 89 = some (.iload_n 2, 1, (0, 0, 0, 0), 0) := rfl
theorem s303_89 {c : Nat → List AV → SS → Option Out} {l0 l1 : Option AV} {x : Int32} {L2 : List (Nat × AV)} {St : List AV} {S : SS} : ev c 303 89 [l0, l1, some (aI x)] L2 St S = ev c 303 90 [l0, l1, some (aI x)] L2 (aI x :: St) S := ev_go i303_89 rfl
theorem i303_90 : insAt 303 90 = some (.invokevirtual 115, 3, (230, 1, 2, 12), 400) := rfl
theorem s303_90 {c : Nat → List AV → SS → Option Out} {l0 l1 l2 : Option AV} {t0 t1 : AV} {a0 : Int32} {j t : Nat} {L2 : List (Nat × AV)} {S : SS} : ev c 303 90 [l0, l1, l2] L2 [aI a0, aR (12, j, t), t0, t1] S = ck (c 230 [aR (12, j, t), aI a0] S) (fun v S' => ev c 303 93 [l0, l1, l2] L2 (v.toList ++ [t0, t1]) S') := ev_call i303_90 rfl
theorem i303_93 : insAt 303 93 = some (.ifCond .eq 8, 3, (0, 0, 0, 0), 0) := rfl
theorem s303_93 {c : Nat → List AV → SS → Option Out} {l0 l1 l2 : Option AV} {x : Int32} {L2 : List (Nat × AV)} {St : List AV} {S : SS} : ev c 303 93 [l0, l1, l2] L2 (aI x :: St) S = if x = 0 then ev c 303 101 [l0, l1, l2] L2 St S else ev c 303 96 [l0, l1, l2] L2 St S := ev_br i303_93 rfl
theorem i303_96 : insAt 303 96 = some (.bipush 76, 2, (0, 0, 0, 0), 0) := rfl
theorem s303_96 {c : Nat → List AV → SS → Option Out} {l0 l1 l2 : Option AV} {L2 : List (Nat × AV)} {St : List AV} {S : SS} : ev c 303 96 [l0, l1, l2] L2 St S = ev c 303 98 [l0, l1, l2] L2 (aI 76 :: St) S := ev_go i303_96 rfl
theorem i303_98 : insAt 303 98 = some (.goto 5, 3, (0, 0, 0, 0), 0) := rfl
theorem s303_98 {c : Nat → List AV → SS → Option Out} {l0 l1 l2 : Option AV} {L2 : List (Nat × AV)} {St : List AV} {S : SS} : ev c 303 98 [l0, l1, l2] L2 St S = ev c 303 103 [l0, l1, l2] L2 St S := ev_go i303_98 rfl
theorem i303_101 : insAt 303 101 = some (.bipush 84, 2, (0, 0, 0, 0), 0) := rfl
theorem s303_101 {c : Nat → List AV → SS → Option Out} {l0 l1 l2 : Option AV} {L2 : List (Nat × AV)} {St : List AV} {S : SS} : ev c 303 101 [l0, l1, l2] L2 St S = ev c 303 103 [l0, l1, l2] L2 (aI 84 :: St) S := ev_go i303_101 rfl
theorem i303_103 : insAt 303 103 = some (.invokevirtual 221, 3, (199, 1, 2, 1), 429) := rfl
theorem s303_103 {c : Nat → List AV → SS → Option Out} {l0 l1 l2 : Option AV} {t0 : AV} {a0 : Int32} {j t : Nat} {L2 : List (Nat × AV)} {S : SS} : ev c 303 103 [l0, l1, l2] L2 [aI a0, aR (1, j, t), t0] S = ck (c 199 [aR (1, j, t), aI a0] S) (fun v S' => ev c 303 106 [l0, l1, l2] L2 (v.toList ++ [t0]) S') := ev_call i303_103 rfl
theorem i303_106 : insAt 303 106 = some (.aload_n 0, 1, (0, 0, 0, 0), 0) := rfl
theorem s303_106 {c : Nat → List AV → SS → Option Out} {l1 l2 : Option AV} {o : OId} {L2 : List (Nat × AV)} {St : List AV} {S : SS} : ev c 303 106 [some (aR o), l1, l2] L2 St S = ev c 303 107 [some (aR o), l1, l2] L2 (aR o :: St) S := ev_go i303_106 rfl
theorem i303_107 : insAt 303 107 = some (.iload_n 2, 1, (0, 0, 0, 0), 0) := rfl
theorem s303_107 {c : Nat → List AV → SS → Option Out} {l0 l1 : Option AV} {x : Int32} {L2 : List (Nat × AV)} {St : List AV} {S : SS} : ev c 303 107 [l0, l1, some (aI x)] L2 St S = ev c 303 108 [l0, l1, some (aI x)] L2 (aI x :: St) S := ev_go i303_107 rfl
theorem i303_108 : insAt 303 108 = some (.iconst 4, 1, (0, 0, 0, 0), 0) := rfl
theorem s303_108 {c : Nat → List AV → SS → Option Out} {l0 l1 l2 : Option AV} {L2 : List (Nat × AV)} {St : List AV} {S : SS} : ev c 303 108 [l0, l1, l2] L2 St S = ev c 303 109 [l0, l1, l2] L2 (aI 4 :: St) S := ev_go i303_108 rfl
theorem i303_109 : insAt 303 109 = some (.invokevirtual 75, 3, (231, 2, 2, 12), 396) := rfl
theorem s303_109 {c : Nat → List AV → SS → Option Out} {l0 l1 l2 : Option AV} {t0 t1 : AV} {a0 : Int32} {a1 : Int32} {j t : Nat} {L2 : List (Nat × AV)} {S : SS} : ev c 303 109 [l0, l1, l2] L2 [aI a1, aI a0, aR (12, j, t), t0, t1] S = ck (c 231 [aR (12, j, t), aI a0, aI a1] S) (fun v S' => ev c 303 112 [l0, l1, l2] L2 (v.toList ++ [t0, t1]) S') := ev_call i303_109 rfl
theorem i303_112 : insAt 303 112 = some (.invokevirtual 217, 3, (186, 1, 2, 1), 428) := rfl
theorem s303_112 {c : Nat → List AV → SS → Option Out} {l0 l1 l2 : Option AV} {t0 : AV} {a0 : Int32} {j t : Nat} {L2 : List (Nat × AV)} {S : SS} : ev c 303 112 [l0, l1, l2] L2 [aI a0, aR (1, j, t), t0] S = ck (c 186 [aR (1, j, t), aI a0] S) (fun v S' => ev c 303 115 [l0, l1, l2] L2 (v.toList ++ [t0]) S') := ev_call i303_112 rfl
theorem i303_115 : insAt 303 115 = some (.invokevirtual 63, 3, (190, 0, 2, 1), 382) := rfl
theorem s303_115 {c : Nat → List AV → SS → Option Out} {l0 l1 l2 : Option AV} {t0 : AV} {j t : Nat} {L2 : List (Nat × AV)} {S : SS} : ev c 303 115 [l0, l1, l2] L2 [aR (1, j, t), t0] S = ck (c 190 [aR (1, j, t)] S) (fun v S' => ev c 303 118 [l0, l1, l2] L2 (v.toList ++ [t0]) S') := ev_call i303_115 rfl
theorem i303_118 : insAt 303 118 = some (.putfield 67, 3, (12, 16, 0, 0), 383) := rfl
theorem s303_118 {c : Nat → List AV → SS → Option Out} {l0 l1 l2 : Option AV} {j t : Nat} {p : OId} {L2 : List (Nat × AV)} {St : List AV} {S : SS} : ev c 303 118 [l0, l1, l2] L2 (aR p :: aR (12, j, t) :: St) S = ev c 303 121 [l0, l1, l2] L2 St (S.1, setV S.2.1 (12, j, t) 16 (aR p), S.2.2) := ev_go i303_118 rfl
theorem i303_121 : insAt 303 121 = some (.aload_n 0, 1, (0, 0, 0, 0), 0) := rfl
theorem s303_121 {c : Nat → List AV → SS → Option Out} {l1 l2 : Option AV} {o : OId} {L2 : List (Nat × AV)} {St : List AV} {S : SS} : ev c 303 121 [some (aR o), l1, l2] L2 St S = ev c 303 122 [some (aR o), l1, l2] L2 (aR o :: St) S := ev_go i303_121 rfl
theorem i303_122 : insAt 303 122 = some (.getfield 67, 3, (12, 16, 0, 0), 383) := rfl
theorem s303_122 {c : Nat → List AV → SS → Option Out} {l0 l1 l2 : Option AV} {j t : Nat} {L2 : List (Nat × AV)} {St : List AV} {S : SS} : ev c 303 122 [l0, l1, l2] L2 (aR (12, j, t) :: St) S = ev c 303 125 [l0, l1, l2] L2 (S.2.1 (12, j, t) 16 :: St) S := ev_go i303_122 rfl
theorem i303_125 : insAt 303 125 = some (.invokevirtual 224, 3, (181, 0, 2, 0), 430) := rfl
theorem s303_125 {c : Nat → List AV → SS → Option Out} {l0 l1 l2 : Option AV} {j t : Nat} {L2 : List (Nat × AV)} {S : SS} : ev c 303 125 [l0, l1, l2] L2 [aR (0, j, t)] S = ck (c 181 [aR (0, j, t)] S) (fun v S' => ev c 303 128 [l0, l1, l2] L2 (v.toList ++ []) S') := ev_call i303_125 rfl
theorem i303_128 : insAt 303 128 = some (.ireturn, 1, (0, 0, 0, 0), 0) := rfl
theorem s303_128 {c : Nat → List AV → SS → Option Out} {l0 l1 l2 : Option AV} {x : Int32} {L2 : List (Nat × AV)} {S : SS} : ev c 303 128 [l0, l1, l2] L2 [aI x] S = some (.inl (some (aI x)), S) := ev_end i303_128 rfl
theorem m303 {d : Nat} {o : OId} {a0 : Int32} {S : SS} : evm (d + 1) 303 [aR o, aI a0] S = ev (evm d) 303 0 [some (aR o), some (aI a0), none] [] [] S := evm_s (n := 3) rfl (Nat.le_of_ble_eq_true rfl) rfl rfl
/-! FrequencyOfficeModel.lineAt(I)C -/
theorem i304_0 : insAt 304 0 = some (.aload_n 0, 1, (0, 0, 0, 0), 0) := rfl
theorem s304_0 {c : Nat → List AV → SS → Option Out} {l1 : Option AV} {o : OId} {L2 : List (Nat × AV)} {St : List AV} {S : SS} : ev c 304 0 [some (aR o), l1] L2 St S = ev c 304 1 [some (aR o), l1] L2 (aR o :: St) S := ev_go i304_0 rfl
theorem i304_1 : insAt 304 1 = some (.iload_n 1, 1, (0, 0, 0, 0), 0) := rfl
theorem s304_1 {c : Nat → List AV → SS → Option Out} {l0 : Option AV} {x : Int32} {L2 : List (Nat × AV)} {St : List AV} {S : SS} : ev c 304 1 [l0, some (aI x)] L2 St S = ev c 304 2 [l0, some (aI x)] L2 (aI x :: St) S := ev_go i304_1 rfl
theorem i304_2 : insAt 304 2 = some (.iconst 0, 1, (0, 0, 0, 0), 0) := rfl
theorem s304_2 {c : Nat → List AV → SS → Option Out} {l0 l1 : Option AV} {L2 : List (Nat × AV)} {St : List AV} {S : SS} : ev c 304 2 [l0, l1] L2 St S = ev c 304 3 [l0, l1] L2 (aI 0 :: St) S := ev_go i304_2 rfl
theorem i304_3 : insAt 304 3 = some (.aload_n 0, 1, (0, 0, 0, 0), 0) := rfl
theorem s304_3 {c : Nat → List AV → SS → Option Out} {l1 : Option AV} {o : OId} {L2 : List (Nat × AV)} {St : List AV} {S : SS} : ev c 304 3 [some (aR o), l1] L2 St S = ev c 304 4 [some (aR o), l1] L2 (aR o :: St) S := ev_go i304_3 rfl
theorem i304_4 : insAt 304 4 = some (.getfield 67, 3, (12, 16, 0, 0), 383) := rfl
theorem s304_4 {c : Nat → List AV → SS → Option Out} {l0 l1 : Option AV} {j t : Nat} {L2 : List (Nat × AV)} {St : List AV} {S : SS} : ev c 304 4 [l0, l1] L2 (aR (12, j, t) :: St) S = ev c 304 7 [l0, l1] L2 (S.2.1 (12, j, t) 16 :: St) S := ev_go i304_4 rfl
theorem i304_7 : insAt 304 7 = some (.invokevirtual 224, 3, (181, 0, 2, 0), 430) := rfl
theorem s304_7 {c : Nat → List AV → SS → Option Out} {l0 l1 : Option AV} {t0 t1 t2 : AV} {j t : Nat} {L2 : List (Nat × AV)} {S : SS} : ev c 304 7 [l0, l1] L2 [aR (0, j, t), t0, t1, t2] S = ck (c 181 [aR (0, j, t)] S) (fun v S' => ev c 304 10 [l0, l1] L2 (v.toList ++ [t0, t1, t2]) S') := ev_call i304_7 rfl
theorem i304_10 : insAt 304 10 = some (.iconst 1, 1, (0, 0, 0, 0), 0) := rfl
theorem s304_10 {c : Nat → List AV → SS → Option Out} {l0 l1 : Option AV} {L2 : List (Nat × AV)} {St : List AV} {S : SS} : ev c 304 10 [l0, l1] L2 St S = ev c 304 11 [l0, l1] L2 (aI 1 :: St) S := ev_go i304_10 rfl
theorem i304_11 : insAt 304 11 = some (.isub, 1, (0, 0, 0, 0), 0) := rfl
theorem s304_11 {c : Nat → List AV → SS → Option Out} {l0 l1 : Option AV} {x y : Int32} {L2 : List (Nat × AV)} {St : List AV} {S : SS} : ev c 304 11 [l0, l1] L2 (aI y :: aI x :: St) S = ev c 304 12 [l0, l1] L2 (aI (x - y) :: St) S := ev_go i304_11 rfl
theorem i304_12 : insAt 304 12 = some (.invokestatic 154, 3, (225, 3, 0, 0), 388) := rfl
theorem s304_12 {c : Nat → List AV → SS → Option Out} {l0 l1 : Option AV} {t0 : AV} {a0 : Int32} {a1 : Int32} {a2 : Int32} {L2 : List (Nat × AV)} {S : SS} : ev c 304 12 [l0, l1] L2 [aI a2, aI a1, aI a0, t0] S = ck (c 225 [aI a0, aI a1, aI a2] S) (fun v S' => ev c 304 15 [l0, l1] L2 (v.toList ++ [t0]) S') := ev_call i304_12 rfl
theorem i304_15 : insAt 304 15 = some (.invokevirtual 176, 3, (256, 1, 2, 12), 415) := rfl
theorem s304_15 {c : Nat → List AV → SS → Option Out} {l0 l1 : Option AV} {a0 : Int32} {j t : Nat} {L2 : List (Nat × AV)} {S : SS} : ev c 304 15 [l0, l1] L2 [aI a0, aR (12, j, t)] S = ck (c 256 [aR (12, j, t), aI a0] S) (fun v S' => ev c 304 18 [l0, l1] L2 (v.toList ++ []) S') := ev_call i304_15 rfl
theorem i304_18 : insAt 304 18 = some (.ifCond .le 8, 3, (0, 0, 0, 0), 0) := rfl
theorem s304_18 {c : Nat → List AV → SS → Option Out} {l0 l1 : Option AV} {x : Int32} {L2 : List (Nat × AV)} {St : List AV} {S : SS} : ev c 304 18 [l0, l1] L2 (aI x :: St) S = if x ≤ 0 then ev c 304 26 [l0, l1] L2 St S else ev c 304 21 [l0, l1] L2 St S := ev_br i304_18 rfl
theorem i304_21 : insAt 304 21 = some (.bipush 32, 2, (0, 0, 0, 0), 0) := rfl
theorem s304_21 {c : Nat → List AV → SS → Option Out} {l0 l1 : Option AV} {L2 : List (Nat × AV)} {St : List AV} {S : SS} : ev c 304 21 [l0, l1] L2 St S = ev c 304 23 [l0, l1] L2 (aI 32 :: St) S := ev_go i304_21 rfl
theorem i304_23 : insAt 304 23 = some (.goto 11, 3, (0, 0, 0, 0), 0) := rfl
theorem s304_23 {c : Nat → List AV → SS → Option Out} {l0 l1 : Option AV} {L2 : List (Nat × AV)} {St : List AV} {S : SS} : ev c 304 23 [l0, l1] L2 St S = ev c 304 34 [l0, l1] L2 St S := ev_go i304_23 rfl
theorem i304_26 : insAt 304 26 = some (.aload_n 0, 1, (0, 0, 0, 0), 0) := rfl
theorem s304_26 {c : Nat → List AV → SS → Option Out} {l1 : Option AV} {o : OId} {L2 : List (Nat × AV)} {St : List AV} {S : SS} : ev c 304 26 [some (aR o), l1] L2 St S = ev c 304 27 [some (aR o), l1] L2 (aR o :: St) S := ev_go i304_26 rfl
theorem i304_27 : insAt 304 27 = some (.getfield 67, 3, (12, 16, 0, 0), 383) := rfl
theorem s304_27 {c : Nat → List AV → SS → Option Out} {l0 l1 : Option AV} {j t : Nat} {L2 : List (Nat × AV)} {St : List AV} {S : SS} : ev c 304 27 [l0, l1] L2 (aR (12, j, t) :: St) S = ev c 304 30 [l0, l1] L2 (S.2.1 (12, j, t) 16 :: St) S := ev_go i304_27 rfl
theorem i304_30 : insAt 304 30 = some (.iload_n 1, 1, (0, 0, 0, 0), 0) := rfl
theorem s304_30 {c : Nat → List AV → SS → Option Out} {l0 : Option AV} {x : Int32} {L2 : List (Nat × AV)} {St : List AV} {S : SS} : ev c 304 30 [l0, some (aI x)] L2 St S = ev c 304 31 [l0, some (aI x)] L2 (aI x :: St) S := ev_go i304_30 rfl
theorem i304_31 : insAt 304 31 = some (.invokevirtual 229, 3, (305, 1, 2, 0), 431) := rfl
theorem s304_31 {c : Nat → List AV → SS → Option Out} {l0 l1 : Option AV} {a0 : Int32} {j t : Nat} {L2 : List (Nat × AV)} {S : SS} : ev c 304 31 [l0, l1] L2 [aI a0, aR (0, j, t)] S = ck (c 305 [aR (0, j, t), aI a0] S) (fun v S' => ev c 304 34 [l0, l1] L2 (v.toList ++ []) S') := ev_call i304_31 rfl
theorem i304_34 : insAt 304 34 = some (.ireturn, 1, (0, 0, 0, 0), 0) := rfl
theorem s304_34 {c : Nat → List AV → SS → Option Out} {l0 l1 : Option AV} {x : Int32} {L2 : List (Nat × AV)} {S : SS} : ev c 304 34 [l0, l1] L2 [aI x] S = if (x.toUInt32 % 65536).toInt32 = x then some (.inl (some (aI x)), S) else none := ev_rt i304_34 rfl
theorem m304 {d : Nat} {o : OId} {a0 : Int32} {S : SS} : evm (d + 1) 304 [aR o, aI a0] S = ev (evm d) 304 0 [some (aR o), some (aI a0)] [] [] S := evm_s (n := 2) rfl (Nat.le_of_ble_eq_true rfl) rfl rfl
/-! FrequencyOfficeModel.undo()I -/
theorem i308_0 : insAt 308 0 = some (.aload_n 0, 1, (0, 0, 0, 0), 0) := rfl
theorem s308_0 {c : Nat → List AV → SS → Option Out} {o : OId} {L2 : List (Nat × AV)} {St : List AV} {S : SS} : ev c 308 0 [some (aR o)] L2 St S = ev c 308 1 [some (aR o)] L2 (aR o :: St) S := ev_go i308_0 rfl
theorem i308_1 : insAt 308 1 = some (.aload_n 0, 1, (0, 0, 0, 0), 0) := rfl
theorem s308_1 {c : Nat → List AV → SS → Option Out} {o : OId} {L2 : List (Nat × AV)} {St : List AV} {S : SS} : ev c 308 1 [some (aR o)] L2 St S = ev c 308 2 [some (aR o)] L2 (aR o :: St) S := ev_go i308_1 rfl
theorem i308_2 : insAt 308 2 = some (.getfield 35, 3, (12, 8, 0, 0), 372) := rfl
theorem s308_2 {c : Nat → List AV → SS → Option Out} {l0 : Option AV} {j t : Nat} {L2 : List (Nat × AV)} {St : List AV} {S : SS} : ev c 308 2 [l0] L2 (aR (12, j, t) :: St) S = ev c 308 5 [l0] L2 (aI (S.1 (12, j, t) 8) :: St) S := ev_go i308_2 rfl
theorem i308_5 : insAt 308 5 = some (.ifCond .le 7, 3, (0, 0, 0, 0), 0) := rfl
theorem s308_5 {c : Nat → List AV → SS → Option Out} {l0 : Option AV} {x : Int32} {L2 : List (Nat × AV)} {St : List AV} {S : SS} : ev c 308 5 [l0] L2 (aI x :: St) S = if x ≤ 0 then ev c 308 12 [l0] L2 St S else ev c 308 8 [l0] L2 St S := ev_br i308_5 rfl
theorem i308_8 : insAt 308 8 = some (.iconst 1, 1, (0, 0, 0, 0), 0) := rfl
theorem s308_8 {c : Nat → List AV → SS → Option Out} {l0 : Option AV} {L2 : List (Nat × AV)} {St : List AV} {S : SS} : ev c 308 8 [l0] L2 St S = ev c 308 9 [l0] L2 (aI 1 :: St) S := ev_go i308_8 rfl
theorem i308_9 : insAt 308 9 = some (.goto 4, 3, (0, 0, 0, 0), 0) := rfl
theorem s308_9 {c : Nat → List AV → SS → Option Out} {l0 : Option AV} {L2 : List (Nat × AV)} {St : List AV} {S : SS} : ev c 308 9 [l0] L2 St S = ev c 308 13 [l0] L2 St S := ev_go i308_9 rfl
theorem i308_12 : insAt 308 12 = some (.iconst 0, 1, (0, 0, 0, 0), 0) := rfl
theorem s308_12 {c : Nat → List AV → SS → Option Out} {l0 : Option AV} {L2 : List (Nat × AV)} {St : List AV} {S : SS} : ev c 308 12 [l0] L2 St S = ev c 308 13 [l0] L2 (aI 0 :: St) S := ev_go i308_12 rfl
theorem i308_13 : insAt 308 13 = some (.invokevirtual 176, 3, (256, 1, 2, 12), 415) := rfl
theorem s308_13 {c : Nat → List AV → SS → Option Out} {l0 : Option AV} {a0 : Int32} {j t : Nat} {L2 : List (Nat × AV)} {S : SS} : ev c 308 13 [l0] L2 [aI a0, aR (12, j, t)] S = ck (c 256 [aR (12, j, t), aI a0] S) (fun v S' => ev c 308 16 [l0] L2 (v.toList ++ []) S') := ev_call i308_13 rfl
theorem i308_16 : insAt 308 16 = some (.ifCond .le 5, 3, (0, 0, 0, 0), 0) := rfl
theorem s308_16 {c : Nat → List AV → SS → Option Out} {l0 : Option AV} {x : Int32} {L2 : List (Nat × AV)} {St : List AV} {S : SS} : ev c 308 16 [l0] L2 (aI x :: St) S = if x ≤ 0 then ev c 308 21 [l0] L2 St S else ev c 308 19 [l0] L2 St S := ev_br i308_16 rfl
theorem i308_19 : insAt 308 19 = some (.iconst 0, 1, (0, 0, 0, 0), 0) := rfl
theorem s308_19 {c : Nat → List AV → SS → Option Out} {l0 : Option AV} {L2 : List (Nat × AV)} {St : List AV} {S : SS} : ev c 308 19 [l0] L2 St S = ev c 308 20 [l0] L2 (aI 0 :: St) S := ev_go i308_19 rfl
theorem i308_20 : insAt 308 20 = some (.ireturn, 1, (0, 0, 0, 0), 0) := rfl
theorem s308_20 {c : Nat → List AV → SS → Option Out} {l0 : Option AV} {x : Int32} {L2 : List (Nat × AV)} {S : SS} : ev c 308 20 [l0] L2 [aI x] S = some (.inl (some (aI x)), S) := ev_end i308_20 rfl
theorem i308_21 : insAt 308 21 = some (.aload_n 0, 1, (0, 0, 0, 0), 0) := rfl
theorem s308_21 {c : Nat → List AV → SS → Option Out} {o : OId} {L2 : List (Nat × AV)} {St : List AV} {S : SS} : ev c 308 21 [some (aR o)] L2 St S = ev c 308 22 [some (aR o)] L2 (aR o :: St) S := ev_go i308_21 rfl
theorem i308_22 : insAt 308 22 = some (.dup, 1, (0, 0, 0, 0), 0) := rfl
theorem s308_22 {c : Nat → List AV → SS → Option Out} {l0 : Option AV} {x : OId} {L2 : List (Nat × AV)} {St : List AV} {S : SS} : ev c 308 22 [l0] L2 (aR x :: St) S = ev c 308 23 [l0] L2 (aR x :: aR x :: St) S := ev_go i308_22 rfl
theorem i308_23 : insAt 308 23 = some (.getfield 35, 3, (12, 8, 0, 0), 372) := rfl
theorem s308_23 {c : Nat → List AV → SS → Option Out} {l0 : Option AV} {j t : Nat} {L2 : List (Nat × AV)} {St : List AV} {S : SS} : ev c 308 23 [l0] L2 (aR (12, j, t) :: St) S = ev c 308 26 [l0] L2 (aI (S.1 (12, j, t) 8) :: St) S := ev_go i308_23 rfl
theorem i308_26 : insAt 308 26 = some (.iconst 1, 1, (0, 0, 0, 0), 0) := rfl
theorem s308_26 {c : Nat → List AV → SS → Option Out} {l0 : Option AV} {L2 : List (Nat × AV)} {St : List AV} {S : SS} : ev c 308 26 [l0] L2 St S = ev c 308 27 [l0] L2 (aI 1 :: St) S := ev_go i308_26 rfl
theorem i308_27 : insAt 308 27 = some (.isub, 1, (0, 0, 0, 0), 0) := rfl
theorem s308_27 {c : Nat → List AV → SS → Option Out} {l0 : Option AV} {x y : Int32} {L2 : List (Nat × AV)} {St : List AV} {S : SS} : ev c 308 27 [l0] L2 (aI y :: aI x :: St) S = ev c 308 28 [l0] L2 (aI (x - y) :: St) S := ev_go i308_27 rfl
theorem i308_28 : insAt 308 28 = some (.putfield 35, 3, (12, 8, 0, 0), 372) := rfl
theorem s308_28 {c : Nat → List AV → SS → Option Out} {l0 : Option AV} {j t : Nat} {x : Int32} {L2 : List (Nat × AV)} {St : List AV} {S : SS} : ev c 308 28 [l0] L2 (aI x :: aR (12, j, t) :: St) S = ev c 308 31 [l0] L2 St (setI S.1 (12, j, t) 8 x, S.2) := ev_go i308_28 rfl
theorem i308_31 : insAt 308 31 = some (.aload_n 0, 1, (0, 0, 0, 0), 0) := rfl
theorem s308_31 {c : Nat → List AV → SS → Option Out} {o : OId} {L2 : List (Nat × AV)} {St : List AV} {S : SS} : ev c 308 31 [some (aR o)] L2 St S = ev c 308 32 [some (aR o)] L2 (aR o :: St) S := ev_go i308_31 rfl
theorem i308_32 : insAt 308 32 = some (.aload_n 0, 1, (0, 0, 0, 0), 0) := rfl
theorem s308_32 {c : Nat → List AV → SS → Option Out} {o : OId} {L2 : List (Nat × AV)} {St : List AV} {S : SS} : ev c 308 32 [some (aR o)] L2 St S = ev c 308 33 [some (aR o)] L2 (aR o :: St) S := ev_go i308_32 rfl
theorem i308_33 : insAt 308 33 = some (.getfield 16, 3, (12, 2, 0, 0), 366) := rfl
theorem s308_33 {c : Nat → List AV → SS → Option Out} {l0 : Option AV} {j t : Nat} {L2 : List (Nat × AV)} {St : List AV} {S : SS} : ev c 308 33 [l0] L2 (aR (12, j, t) :: St) S = ev c 308 36 [l0] L2 (S.2.2.1 (12, j, t) 2 :: St) S := ev_go i308_33 rfl
theorem i308_36 : insAt 308 36 = some (.bipush 106, 2, (0, 0, 0, 0), 0) := rfl
theorem s308_36 {c : Nat → List AV → SS → Option Out} {l0 : Option AV} {L2 : List (Nat × AV)} {St : List AV} {S : SS} : ev c 308 36 [l0] L2 St S = ev c 308 38 [l0] L2 (aI 106 :: St) S := ev_go i308_36 rfl
theorem i308_38 : insAt 308 38 = some (.aload_n 0, 1, (0, 0, 0, 0), 0) := rfl
theorem s308_38 {c : Nat → List AV → SS → Option Out} {o : OId} {L2 : List (Nat × AV)} {St : List AV} {S : SS} : ev c 308 38 [some (aR o)] L2 St S = ev c 308 39 [some (aR o)] L2 (aR o :: St) S := ev_go i308_38 rfl
theorem i308_39 : insAt 308 39 = some (.getfield 35, 3, (12, 8, 0, 0), 372) := rfl
theorem s308_39 {c : Nat → List AV → SS → Option Out} {l0 : Option AV} {j t : Nat} {L2 : List (Nat × AV)} {St : List AV} {S : SS} : ev c 308 39 [l0] L2 (aR (12, j, t) :: St) S = ev c 308 42 [l0] L2 (aI (S.1 (12, j, t) 8) :: St) S := ev_go i308_39 rfl
theorem i308_42 : insAt 308 42 = some (.imul, 1, (0, 0, 0, 0), 0) := rfl
theorem s308_42 {c : Nat → List AV → SS → Option Out} {l0 : Option AV} {x y : Int32} {L2 : List (Nat × AV)} {St : List AV} {S : SS} : ev c 308 42 [l0] L2 (aI y :: aI x :: St) S = ev c 308 43 [l0] L2 (aI (x * y) :: St) S := ev_go i308_42 rfl
theorem i308_43 : insAt 308 43 = some (.aload_n 0, 1, (0, 0, 0, 0), 0) := rfl
theorem s308_43 {c : Nat → List AV → SS → Option Out} {o : OId} {L2 : List (Nat × AV)} {St : List AV} {S : SS} : ev c 308 43 [some (aR o)] L2 St S = ev c 308 44 [some (aR o)] L2 (aR o :: St) S := ev_go i308_43 rfl
theorem i308_44 : insAt 308 44 = some (.getfield 7, 3, (12, 0, 0, 0), 364) := rfl
theorem s308_44 {c : Nat → List AV → SS → Option Out} {l0 : Option AV} {j t : Nat} {L2 : List (Nat × AV)} {St : List AV} {S : SS} : ev c 308 44 [l0] L2 (aR (12, j, t) :: St) S = ev c 308 47 [l0] L2 (S.2.2.1 (12, j, t) 0 :: St) S := ev_go i308_44 rfl
theorem i308_47 : insAt 308 47 = some (.iconst 0, 1, (0, 0, 0, 0), 0) := rfl
theorem s308_47 {c : Nat → List AV → SS → Option Out} {l0 : Option AV} {L2 : List (Nat × AV)} {St : List AV} {S : SS} : ev c 308 47 [l0] L2 St S = ev c 308 48 [l0] L2 (aI 0 :: St) S := ev_go i308_47 rfl
theorem i308_48 : insAt 308 48 = some (.invokevirtual 71, 3, (218, 4, 2, 12), 385) := rfl
theorem s308_48 {c : Nat → List AV → SS → Option Out} {l0 : Option AV} {a0 : OId} {a1 : Int32} {a2 : OId} {a3 : Int32} {j t : Nat} {L2 : List (Nat × AV)} {S : SS} : ev c 308 48 [l0] L2 [aI a3, aR a2, aI a1, aR a0, aR (12, j, t)] S = ck (c 218 [aR (12, j, t), aR a0, aI a1, aR a2, aI a3] S) (fun v S' => ev c 308 51 [l0] L2 (v.toList ++ []) S') := ev_call i308_48 rfl
theorem i308_51 : insAt 308 51 = some (.aload_n 0, 1, (0, 0, 0, 0), 0) := rfl
theorem s308_51 {c : Nat → List AV → SS → Option Out} {o : OId} {L2 : List (Nat × AV)} {St : List AV} {S : SS} : ev c 308 51 [some (aR o)] L2 St S = ev c 308 52 [some (aR o)] L2 (aR o :: St) S := ev_go i308_51 rfl
theorem i308_52 : insAt 308 52 = some (.getfield 35, 3, (12, 8, 0, 0), 372) := rfl
theorem s308_52 {c : Nat → List AV → SS → Option Out} {l0 : Option AV} {j t : Nat} {L2 : List (Nat × AV)} {St : List AV} {S : SS} : ev c 308 52 [l0] L2 (aR (12, j, t) :: St) S = ev c 308 55 [l0] L2 (aI (S.1 (12, j, t) 8) :: St) S := ev_go i308_52 rfl
theorem i308_55 : insAt 308 55 = some (.ireturn, 1, (0, 0, 0, 0), 0) := rfl
theorem s308_55 {c : Nat → List AV → SS → Option Out} {l0 : Option AV} {x : Int32} {L2 : List (Nat × AV)} {S : SS} : ev c 308 55 [l0] L2 [aI x] S = some (.inl (some (aI x)), S) := ev_end i308_55 rfl
theorem m308 {d : Nat} {o : OId} {S : SS} : evm (d + 1) 308 [aR o] S = ev (evm d) 308 0 [some (aR o)] [] [] S := evm_s (n := 1) rfl (Nat.le_of_ble_eq_true rfl) rfl rfl
/-! FrequencyOfficeModel.save()I -/
theorem i309_0 : insAt 309 0 = some (.aload_n 0, 1, (0, 0, 0, 0), 0) := rfl
theorem s309_0 {c : Nat → List AV → SS → Option Out} {o : OId} {L2 : List (Nat × AV)} {St : List AV} {S : SS} : ev c 309 0 [some (aR o)] L2 St S = ev c 309 1 [some (aR o)] L2 (aR o :: St) S := ev_go i309_0 rfl
theorem i309_1 : insAt 309 1 = some (.aload_n 0, 1, (0, 0, 0, 0), 0) := rfl
theorem s309_1 {c : Nat → List AV → SS → Option Out} {o : OId} {L2 : List (Nat × AV)} {St : List AV} {S : SS} : ev c 309 1 [some (aR o)] L2 St S = ev c 309 2 [some (aR o)] L2 (aR o :: St) S := ev_go i309_1 rfl
theorem i309_2 : insAt 309 2 = some (.getfield 7, 3, (12, 0, 0, 0), 364) := rfl
theorem s309_2 {c : Nat → List AV → SS → Option Out} {l0 : Option AV} {j t : Nat} {L2 : List (Nat × AV)} {St : List AV} {S : SS} : ev c 309 2 [l0] L2 (aR (12, j, t) :: St) S = ev c 309 5 [l0] L2 (S.2.2.1 (12, j, t) 0 :: St) S := ev_go i309_2 rfl
theorem i309_5 : insAt 309 5 = some (.iconst 0, 1, (0, 0, 0, 0), 0) := rfl
theorem s309_5 {c : Nat → List AV → SS → Option Out} {l0 : Option AV} {L2 : List (Nat × AV)} {St : List AV} {S : SS} : ev c 309 5 [l0] L2 St S = ev c 309 6 [l0] L2 (aI 0 :: St) S := ev_go i309_5 rfl
theorem i309_6 : insAt 309 6 = some (.aload_n 0, 1, (0, 0, 0, 0), 0) := rfl
theorem s309_6 {c : Nat → List AV → SS → Option Out} {o : OId} {L2 : List (Nat × AV)} {St : List AV} {S : SS} : ev c 309 6 [some (aR o)] L2 St S = ev c 309 7 [some (aR o)] L2 (aR o :: St) S := ev_go i309_6 rfl
theorem i309_7 : insAt 309 7 = some (.getfield 13, 3, (12, 1, 0, 0), 365) := rfl
theorem s309_7 {c : Nat → List AV → SS → Option Out} {l0 : Option AV} {j t : Nat} {L2 : List (Nat × AV)} {St : List AV} {S : SS} : ev c 309 7 [l0] L2 (aR (12, j, t) :: St) S = ev c 309 10 [l0] L2 (S.2.2.1 (12, j, t) 1 :: St) S := ev_go i309_7 rfl
theorem i309_10 : insAt 309 10 = some (.iconst 0, 1, (0, 0, 0, 0), 0) := rfl
theorem s309_10 {c : Nat → List AV → SS → Option Out} {l0 : Option AV} {L2 : List (Nat × AV)} {St : List AV} {S : SS} : ev c 309 10 [l0] L2 St S = ev c 309 11 [l0] L2 (aI 0 :: St) S := ev_go i309_10 rfl
theorem i309_11 : insAt 309 11 = some (.invokevirtual 71, 3, (218, 4, 2, 12), 385) := rfl
theorem s309_11 {c : Nat → List AV → SS → Option Out} {l0 : Option AV} {a0 : OId} {a1 : Int32} {a2 : OId} {a3 : Int32} {j t : Nat} {L2 : List (Nat × AV)} {S : SS} : ev c 309 11 [l0] L2 [aI a3, aR a2, aI a1, aR a0, aR (12, j, t)] S = ck (c 218 [aR (12, j, t), aR a0, aI a1, aR a2, aI a3] S) (fun v S' => ev c 309 14 [l0] L2 (v.toList ++ []) S') := ev_call i309_11 rfl
theorem i309_14 : insAt 309 14 = some (.aload_n 0, 1, (0, 0, 0, 0), 0) := rfl
theorem s309_14 {c : Nat → List AV → SS → Option Out} {o : OId} {L2 : List (Nat × AV)} {St : List AV} {S : SS} : ev c 309 14 [some (aR o)] L2 St S = ev c 309 15 [some (aR o)] L2 (aR o :: St) S := ev_go i309_14 rfl
theorem i309_15 : insAt 309 15 = some (.iconst 1, 1, (0, 0, 0, 0), 0) := rfl
theorem s309_15 {c : Nat → List AV → SS → Option Out} {l0 : Option AV} {L2 : List (Nat × AV)} {St : List AV} {S : SS} : ev c 309 15 [l0] L2 St S = ev c 309 16 [l0] L2 (aI 1 :: St) S := ev_go i309_15 rfl
theorem i309_16 : insAt 309 16 = some (.putfield 56, 3, (12, 15, 0, 0), 379) := rfl
theorem s309_16 {c : Nat → List AV → SS → Option Out} {l0 : Option AV} {j t : Nat} {x : Int32} {L2 : List (Nat × AV)} {St : List AV} {S : SS} : ev c 309 16 [l0] L2 (aI x :: aR (12, j, t) :: St) S = if x = 0 ∨ x = 1 then ev c 309 19 [l0] L2 St (setI S.1 (12, j, t) 15 x, S.2) else none := ev_if i309_16 rfl
theorem i309_19 : insAt 309 19 = some (.aload_n 0, 1, (0, 0, 0, 0), 0) := rfl
theorem s309_19 {c : Nat → List AV → SS → Option Out} {o : OId} {L2 : List (Nat × AV)} {St : List AV} {S : SS} : ev c 309 19 [some (aR o)] L2 St S = ev c 309 20 [some (aR o)] L2 (aR o :: St) S := ev_go i309_19 rfl
theorem i309_20 : insAt 309 20 = some (.aload_n 0, 1, (0, 0, 0, 0), 0) := rfl
theorem s309_20 {c : Nat → List AV → SS → Option Out} {o : OId} {L2 : List (Nat × AV)} {St : List AV} {S : SS} : ev c 309 20 [some (aR o)] L2 St S = ev c 309 21 [some (aR o)] L2 (aR o :: St) S := ev_go i309_20 rfl
theorem i309_21 : insAt 309 21 = some (.getfield 7, 3, (12, 0, 0, 0), 364) := rfl
theorem s309_21 {c : Nat → List AV → SS → Option Out} {l0 : Option AV} {j t : Nat} {L2 : List (Nat × AV)} {St : List AV} {S : SS} : ev c 309 21 [l0] L2 (aR (12, j, t) :: St) S = ev c 309 24 [l0] L2 (S.2.2.1 (12, j, t) 0 :: St) S := ev_go i309_21 rfl
theorem i309_24 : insAt 309 24 = some (.bipush 7, 2, (0, 0, 0, 0), 0) := rfl
theorem s309_24 {c : Nat → List AV → SS → Option Out} {l0 : Option AV} {L2 : List (Nat × AV)} {St : List AV} {S : SS} : ev c 309 24 [l0] L2 St S = ev c 309 26 [l0] L2 (aI 7 :: St) S := ev_go i309_24 rfl
theorem i309_26 : insAt 309 26 = some (.iaload, 1, (0, 0, 0, 0), 0) := rfl
theorem s309_26 {c : Nat → List AV → SS → Option Out} {l0 : Option AV} {i : Int32} {o : OId} {L2 : List (Nat × AV)} {St : List AV} {S : SS} : ev c 309 26 [l0] L2 (aI i :: aR o :: St) S = kI o i (ev c 309 27 [l0] L2 (aI (agI S o i.toNatClampNeg) :: St) S) := ev_iaload i309_26
theorem i309_27 : insAt 309 27 = some (.invokevirtual 89, 3, (220, 1, 2, 12), 386) := rfl
theorem s309_27 {c : Nat → List AV → SS → Option Out} {l0 : Option AV} {a0 : Int32} {j t : Nat} {L2 : List (Nat × AV)} {S : SS} : ev c 309 27 [l0] L2 [aI a0, aR (12, j, t)] S = ck (c 220 [aR (12, j, t), aI a0] S) (fun v S' => ev c 309 30 [l0] L2 (v.toList ++ []) S') := ev_call i309_27 rfl
theorem i309_30 : insAt 309 30 = some (.ireturn, 1, (0, 0, 0, 0), 0) := rfl
theorem s309_30 {c : Nat → List AV → SS → Option Out} {l0 : Option AV} {x : Int32} {L2 : List (Nat × AV)} {S : SS} : ev c 309 30 [l0] L2 [aI x] S = some (.inl (some (aI x)), S) := ev_end i309_30 rfl
theorem m309 {d : Nat} {o : OId} {S : SS} : evm (d + 1) 309 [aR o] S = ev (evm d) 309 0 [some (aR o)] [] [] S := evm_s (n := 1) rfl (Nat.le_of_ble_eq_true rfl) rfl rfl
/-! FrequencyOfficeModel.restore()I -/
theorem i310_0 : insAt 310 0 = some (.aload_n 0, 1, (0, 0, 0, 0), 0) := rfl
theorem s310_0 {c : Nat → List AV → SS → Option Out} {o : OId} {L2 : List (Nat × AV)} {St : List AV} {S : SS} : ev c 310 0 [some (aR o)] L2 St S = ev c 310 1 [some (aR o)] L2 (aR o :: St) S := ev_go i310_0 rfl
theorem i310_1 : insAt 310 1 = some (.aload_n 0, 1, (0, 0, 0, 0), 0) := rfl
theorem s310_1 {c : Nat → List AV → SS → Option Out} {o : OId} {L2 : List (Nat × AV)} {St : List AV} {S : SS} : ev c 310 1 [some (aR o)] L2 St S = ev c 310 2 [some (aR o)] L2 (aR o :: St) S := ev_go i310_1 rfl
theorem i310_2 : insAt 310 2 = some (.getfield 56, 3, (12, 15, 0, 0), 379) := rfl
theorem s310_2 {c : Nat → List AV → SS → Option Out} {l0 : Option AV} {j t : Nat} {L2 : List (Nat × AV)} {St : List AV} {S : SS} : ev c 310 2 [l0] L2 (aR (12, j, t) :: St) S = ev c 310 5 [l0] L2 (aI (bb (S.1 (12, j, t) 15)) :: St) S := ev_go i310_2 rfl
theorem i310_5 : insAt 310 5 = some (.invokevirtual 176, 3, (256, 1, 2, 12), 415) := rfl
theorem s310_5 {c : Nat → List AV → SS → Option Out} {l0 : Option AV} {a0 : Int32} {j t : Nat} {L2 : List (Nat × AV)} {S : SS} : ev c 310 5 [l0] L2 [aI a0, aR (12, j, t)] S = ck (c 256 [aR (12, j, t), aI a0] S) (fun v S' => ev c 310 8 [l0] L2 (v.toList ++ []) S') := ev_call i310_5 rfl
theorem i310_8 : insAt 310 8 = some (.ifCond .le 5, 3, (0, 0, 0, 0), 0) := rfl
theorem s310_8 {c : Nat → List AV → SS → Option Out} {l0 : Option AV} {x : Int32} {L2 : List (Nat × AV)} {St : List AV} {S : SS} : ev c 310 8 [l0] L2 (aI x :: St) S = if x ≤ 0 then ev c 310 13 [l0] L2 St S else ev c 310 11 [l0] L2 St S := ev_br i310_8 rfl
theorem i310_11 : insAt 310 11 = some (.iconst 0, 1, (0, 0, 0, 0), 0) := rfl
theorem s310_11 {c : Nat → List AV → SS → Option Out} {l0 : Option AV} {L2 : List (Nat × AV)} {St : List AV} {S : SS} : ev c 310 11 [l0] L2 St S = ev c 310 12 [l0] L2 (aI 0 :: St) S := ev_go i310_11 rfl
theorem i310_12 : insAt 310 12 = some (.ireturn, 1, (0, 0, 0, 0), 0) := rfl
theorem s310_12 {c : Nat → List AV → SS → Option Out} {l0 : Option AV} {x : Int32} {L2 : List (Nat × AV)} {S : SS} : ev c 310 12 [l0] L2 [aI x] S = some (.inl (some (aI x)), S) := ev_end i310_12 rfl
theorem i310_13 : insAt 310 13 = some (.aload_n 0, 1, (0, 0, 0, 0), 0) := rfl
theorem s310_13 {c : Nat → List AV → SS → Option Out} {o : OId} {L2 : List (Nat × AV)} {St : List AV} {S : SS} : ev c 310 13 [some (aR o)] L2 St S = ev c 310 14 [some (aR o)] L2 (aR o :: St) S := ev_go i310_13 rfl
theorem i310_14 : insAt 310 14 = some (.aload_n 0, 1, (0, 0, 0, 0), 0) := rfl
theorem s310_14 {c : Nat → List AV → SS → Option Out} {o : OId} {L2 : List (Nat × AV)} {St : List AV} {S : SS} : ev c 310 14 [some (aR o)] L2 St S = ev c 310 15 [some (aR o)] L2 (aR o :: St) S := ev_go i310_14 rfl
theorem i310_15 : insAt 310 15 = some (.getfield 13, 3, (12, 1, 0, 0), 365) := rfl
theorem s310_15 {c : Nat → List AV → SS → Option Out} {l0 : Option AV} {j t : Nat} {L2 : List (Nat × AV)} {St : List AV} {S : SS} : ev c 310 15 [l0] L2 (aR (12, j, t) :: St) S = ev c 310 18 [l0] L2 (S.2.2.1 (12, j, t) 1 :: St) S := ev_go i310_15 rfl
theorem i310_18 : insAt 310 18 = some (.iconst 0, 1, (0, 0, 0, 0), 0) := rfl
theorem s310_18 {c : Nat → List AV → SS → Option Out} {l0 : Option AV} {L2 : List (Nat × AV)} {St : List AV} {S : SS} : ev c 310 18 [l0] L2 St S = ev c 310 19 [l0] L2 (aI 0 :: St) S := ev_go i310_18 rfl
theorem i310_19 : insAt 310 19 = some (.aload_n 0, 1, (0, 0, 0, 0), 0) := rfl
theorem s310_19 {c : Nat → List AV → SS → Option Out} {o : OId} {L2 : List (Nat × AV)} {St : List AV} {S : SS} : ev c 310 19 [some (aR o)] L2 St S = ev c 310 20 [some (aR o)] L2 (aR o :: St) S := ev_go i310_19 rfl
theorem i310_20 : insAt 310 20 = some (.getfield 7, 3, (12, 0, 0, 0), 364) := rfl
theorem s310_20 {c : Nat → List AV → SS → Option Out} {l0 : Option AV} {j t : Nat} {L2 : List (Nat × AV)} {St : List AV} {S : SS} : ev c 310 20 [l0] L2 (aR (12, j, t) :: St) S = ev c 310 23 [l0] L2 (S.2.2.1 (12, j, t) 0 :: St) S := ev_go i310_20 rfl
theorem i310_23 : insAt 310 23 = some (.iconst 0, 1, (0, 0, 0, 0), 0) := rfl
theorem s310_23 {c : Nat → List AV → SS → Option Out} {l0 : Option AV} {L2 : List (Nat × AV)} {St : List AV} {S : SS} : ev c 310 23 [l0] L2 St S = ev c 310 24 [l0] L2 (aI 0 :: St) S := ev_go i310_23 rfl
theorem i310_24 : insAt 310 24 = some (.invokevirtual 71, 3, (218, 4, 2, 12), 385) := rfl
theorem s310_24 {c : Nat → List AV → SS → Option Out} {l0 : Option AV} {a0 : OId} {a1 : Int32} {a2 : OId} {a3 : Int32} {j t : Nat} {L2 : List (Nat × AV)} {S : SS} : ev c 310 24 [l0] L2 [aI a3, aR a2, aI a1, aR a0, aR (12, j, t)] S = ck (c 218 [aR (12, j, t), aR a0, aI a1, aR a2, aI a3] S) (fun v S' => ev c 310 27 [l0] L2 (v.toList ++ []) S') := ev_call i310_24 rfl
theorem i310_27 : insAt 310 27 = some (.aload_n 0, 1, (0, 0, 0, 0), 0) := rfl
theorem s310_27 {c : Nat → List AV → SS → Option Out} {o : OId} {L2 : List (Nat × AV)} {St : List AV} {S : SS} : ev c 310 27 [some (aR o)] L2 St S = ev c 310 28 [some (aR o)] L2 (aR o :: St) S := ev_go i310_27 rfl
theorem i310_28 : insAt 310 28 = some (.iconst 0, 1, (0, 0, 0, 0), 0) := rfl
theorem s310_28 {c : Nat → List AV → SS → Option Out} {l0 : Option AV} {L2 : List (Nat × AV)} {St : List AV} {S : SS} : ev c 310 28 [l0] L2 St S = ev c 310 29 [l0] L2 (aI 0 :: St) S := ev_go i310_28 rfl
theorem i310_29 : insAt 310 29 = some (.putfield 35, 3, (12, 8, 0, 0), 372) := rfl
theorem s310_29 {c : Nat → List AV → SS → Option Out} {l0 : Option AV} {j t : Nat} {x : Int32} {L2 : List (Nat × AV)} {St : List AV} {S : SS} : ev c 310 29 [l0] L2 (aI x :: aR (12, j, t) :: St) S = ev c 310 32 [l0] L2 St (setI S.1 (12, j, t) 8 x, S.2) := ev_go i310_29 rfl
theorem i310_32 : insAt 310 32 = some (.aload_n 0, 1, (0, 0, 0, 0), 0) := rfl
theorem s310_32 {c : Nat → List AV → SS → Option Out} {o : OId} {L2 : List (Nat × AV)} {St : List AV} {S : SS} : ev c 310 32 [some (aR o)] L2 St S = ev c 310 33 [some (aR o)] L2 (aR o :: St) S := ev_go i310_32 rfl
theorem i310_33 : insAt 310 33 = some (.getfield 7, 3, (12, 0, 0, 0), 364) := rfl
theorem s310_33 {c : Nat → List AV → SS → Option Out} {l0 : Option AV} {j t : Nat} {L2 : List (Nat × AV)} {St : List AV} {S : SS} : ev c 310 33 [l0] L2 (aR (12, j, t) :: St) S = ev c 310 36 [l0] L2 (S.2.2.1 (12, j, t) 0 :: St) S := ev_go i310_33 rfl
theorem i310_36 : insAt 310 36 = some (.bipush 7, 2, (0, 0, 0, 0), 0) := rfl
theorem s310_36 {c : Nat → List AV → SS → Option Out} {l0 : Option AV} {L2 : List (Nat × AV)} {St : List AV} {S : SS} : ev c 310 36 [l0] L2 St S = ev c 310 38 [l0] L2 (aI 7 :: St) S := ev_go i310_36 rfl
theorem i310_38 : insAt 310 38 = some (.iaload, 1, (0, 0, 0, 0), 0) := rfl
theorem s310_38 {c : Nat → List AV → SS → Option Out} {l0 : Option AV} {i : Int32} {o : OId} {L2 : List (Nat × AV)} {St : List AV} {S : SS} : ev c 310 38 [l0] L2 (aI i :: aR o :: St) S = kI o i (ev c 310 39 [l0] L2 (aI (agI S o i.toNatClampNeg) :: St) S) := ev_iaload i310_38
theorem i310_39 : insAt 310 39 = some (.ireturn, 1, (0, 0, 0, 0), 0) := rfl
theorem s310_39 {c : Nat → List AV → SS → Option Out} {l0 : Option AV} {x : Int32} {L2 : List (Nat × AV)} {S : SS} : ev c 310 39 [l0] L2 [aI x] S = some (.inl (some (aI x)), S) := ev_end i310_39 rfl
theorem m310 {d : Nat} {o : OId} {S : SS} : evm (d + 1) 310 [aR o] S = ev (evm d) 310 0 [some (aR o)] [] [] S := evm_s (n := 1) rfl (Nat.le_of_ble_eq_true rfl) rfl rfl
